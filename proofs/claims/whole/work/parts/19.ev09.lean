theorem dX7_unlikeAt_0 : decode cX7_unlikeAt 0 = .ok (.aload_n 0, 1) := by decide +kernel
theorem dX7_unlikeAt_1 : decode cX7_unlikeAt 1 = .ok (.iload_n 1, 1) := by decide +kernel
theorem dX7_unlikeAt_2 : decode cX7_unlikeAt 2 = .ok (.iload_n 2, 1) := by decide +kernel
theorem dX7_unlikeAt_3 : decode cX7_unlikeAt 3 = .ok (.invokevirtual 87, 3) := by decide +kernel
theorem dX7_unlikeAt_6 : decode cX7_unlikeAt 6 = .ok (.aload_n 0, 1) := by decide +kernel
theorem dX7_unlikeAt_7 : decode cX7_unlikeAt 7 = .ok (.iload_n 1, 1) := by decide +kernel
theorem dX7_unlikeAt_8 : decode cX7_unlikeAt 8 = .ok (.iload_n 2, 1) := by decide +kernel
theorem dX7_unlikeAt_9 : decode cX7_unlikeAt 9 = .ok (.iconst 1, 1) := by decide +kernel
theorem dX7_unlikeAt_10 : decode cX7_unlikeAt 10 = .ok (.iadd, 1) := by decide +kernel
theorem dX7_unlikeAt_11 : decode cX7_unlikeAt 11 = .ok (.invokevirtual 87, 3) := by decide +kernel
theorem dX7_unlikeAt_14 : decode cX7_unlikeAt 14 = .ok (.isub, 1) := by decide +kernel
theorem dX7_unlikeAt_15 : decode cX7_unlikeAt 15 = .ok (.istore_n 3, 1) := by decide +kernel
theorem dX7_unlikeAt_16 : decode cX7_unlikeAt 16 = .ok (.iload_n 3, 1) := by decide +kernel
theorem dX7_unlikeAt_17 : decode cX7_unlikeAt 17 = .ok (.ifCond .ge 8, 3) := by decide +kernel
theorem dX7_unlikeAt_20 : decode cX7_unlikeAt 20 = .ok (.iload_n 3, 1) := by decide +kernel
theorem dX7_unlikeAt_21 : decode cX7_unlikeAt 21 = .ok (.ineg, 1) := by decide +kernel
theorem dX7_unlikeAt_22 : decode cX7_unlikeAt 22 = .ok (.goto 4, 3) := by decide +kernel
theorem dX7_unlikeAt_25 : decode cX7_unlikeAt 25 = .ok (.iload_n 3, 1) := by decide +kernel
theorem dX7_unlikeAt_26 : decode cX7_unlikeAt 26 = .ok (.ireturn, 1) := by decide +kernel
def rmX7_unlikeAt : Room := { frames := 2, cells := 0, slots := 0, locals := 43 }
abbrev eX7_unlikeAt := Ev cX7_unlikeAt 4 (some .int) RX7 rmX7_unlikeAt
set_option maxRecDepth 20000 in
theorem mt_X7_unlikeAt (p0 : Int32) (p1 : Int32) (σ : St) (Q : Int32 → Prop)  (hP : P_X7_unlikeAt p0 p1 σ Q) : Mt yX7_unlikeAt cX7_unlikeAt 4 (some .int) rmX7_unlikeAt [.ref (49), .int (p0), .int (p1)] σ (qI fun x s => s = σ ∧ Q x) := by
  refine Mt.of (k := 1) (ls := [.ref (49), .int (p0), .int (p1), un]) (by decide +kernel) rfl (Nat.le_of_ble_eq_true rfl) ?_
  show eX7_unlikeAt 0 [.ref (49), .int (p0), .int (p1), un] [] σ _
  unfold P_X7_unlikeAt at hP
  refine E_aload_n dX7_unlikeAt_0 rfl ?_
  refine E_iload_n dX7_unlikeAt_1 rfl ?_
  refine E_iload_n dX7_unlikeAt_2 rfl ?_
  refine E_callV (As := [.int (p0), .int (p1)]) (rest := []) dX7_unlikeAt_3 cl_RX7_87 tw_487 (show kd 49 = 7 by decide) (by decide) rfl tw_488 ⟨rfl, rfl, Nat.le_of_ble_eq_true rfl, Nat.le_of_ble_eq_true rfl⟩ rfl rfl (Nat.le_of_ble_eq_true rfl) (mt_X7_topIn _ _ _ _  hP) ?_
  intro r0 s0 hq0; obtain ⟨r3, h0, hs0, hP⟩ := hq0; subst h0; rw [hs0]
  show eX7_unlikeAt 6 [.ref (49), .int (p0), .int (p1), un] [.int (r3)] σ _
  refine E_aload_n dX7_unlikeAt_6 rfl ?_
  refine E_iload_n dX7_unlikeAt_7 rfl ?_
  refine E_iload_n dX7_unlikeAt_8 rfl ?_
  refine E_iconst (v := 1) dX7_unlikeAt_9 (by decide) ?_
  refine E_iadd dX7_unlikeAt_10 ?_
  refine E_callV (As := [.int (p0), .int (p1 + 1)]) (rest := [.int (r3)]) dX7_unlikeAt_11 cl_RX7_87 tw_487 (show kd 49 = 7 by decide) (by decide) rfl tw_488 ⟨rfl, rfl, Nat.le_of_ble_eq_true rfl, Nat.le_of_ble_eq_true rfl⟩ rfl rfl (Nat.le_of_ble_eq_true rfl) (mt_X7_topIn _ _ _ _  hP) ?_
  intro r0 s0 hq0; obtain ⟨r11, h0, hs0, hP⟩ := hq0; subst h0; rw [hs0]
  show eX7_unlikeAt 14 [.ref (49), .int (p0), .int (p1), un] [.int (r11), .int (r3)] σ _
  refine E_isub dX7_unlikeAt_14 ?_
  refine E_istore_n (ls' := [.ref (49), .int (p0), .int (p1), .int (r3 - r11)]) dX7_unlikeAt_15 (by decide) rfl ?_
  refine E_iload_n dX7_unlikeAt_16 rfl ?_
  refine E_if_ge 25 dX7_unlikeAt_17 (by decide) (fun hc => ?_) (fun hc => ?_)
  · replace hP := hP.1 hc
    refine E_iload_n dX7_unlikeAt_25 rfl ?_
    exact E_iret dX7_unlikeAt_26 rfl ⟨_, rfl, rfl, hP⟩
  · replace hP := hP.2 hc
    refine E_iload_n dX7_unlikeAt_20 rfl ?_
    refine E_ineg dX7_unlikeAt_21 ?_
    refine E_goto 26 dX7_unlikeAt_22 (by decide) ?_
    exact E_iret dX7_unlikeAt_26 rfl ⟨_, rfl, rfl, hP⟩
theorem dX7_isSafe_0 : decode cX7_isSafe 0 = .ok (.iconst 1, 1) := by decide +kernel
theorem dX7_isSafe_1 : decode cX7_isSafe 1 = .ok (.istore_n 2, 1) := by decide +kernel
theorem dX7_isSafe_2 : decode cX7_isSafe 2 = .ok (.iconst 0, 1) := by decide +kernel
theorem dX7_isSafe_3 : decode cX7_isSafe 3 = .ok (.istore_n 3, 1) := by decide +kernel
theorem dX7_isSafe_4 : decode cX7_isSafe 4 = .ok (.iload_n 3, 1) := by decide +kernel
theorem dX7_isSafe_5 : decode cX7_isSafe 5 = .ok (.iconst 3, 1) := by decide +kernel
theorem dX7_isSafe_6 : decode cX7_isSafe 6 = .ok (.if_icmp .ge 43, 3) := by decide +kernel
theorem dX7_isSafe_9 : decode cX7_isSafe 9 = .ok (.iload_n 2, 1) := by decide +kernel
theorem dX7_isSafe_10 : decode cX7_isSafe 10 = .ok (.ifCond .eq 31, 3) := by decide +kernel
theorem dX7_isSafe_13 : decode cX7_isSafe 13 = .ok (.aload_n 0, 1) := by decide +kernel
theorem dX7_isSafe_14 : decode cX7_isSafe 14 = .ok (.iload_n 3, 1) := by decide +kernel
theorem dX7_isSafe_15 : decode cX7_isSafe 15 = .ok (.invokevirtual 90, 3) := by decide +kernel
theorem dX7_isSafe_18 : decode cX7_isSafe 18 = .ok (.ifCond .eq 19, 3) := by decide +kernel
theorem dX7_isSafe_21 : decode cX7_isSafe 21 = .ok (.aload_n 0, 1) := by decide +kernel
theorem dX7_isSafe_22 : decode cX7_isSafe 22 = .ok (.iload_n 1, 1) := by decide +kernel
theorem dX7_isSafe_23 : decode cX7_isSafe 23 = .ok (.iload_n 3, 1) := by decide +kernel
theorem dX7_isSafe_24 : decode cX7_isSafe 24 = .ok (.invokevirtual 93, 3) := by decide +kernel
theorem dX7_isSafe_27 : decode cX7_isSafe 27 = .ok (.aload_n 0, 1) := by decide +kernel
theorem dX7_isSafe_28 : decode cX7_isSafe 28 = .ok (.getfield 7, 3) := by decide +kernel
theorem dX7_isSafe_31 : decode cX7_isSafe 31 = .ok (.bipush 93, 2) := by decide +kernel
theorem dX7_isSafe_33 : decode cX7_isSafe 33 = .ok (.iaload, 1) := by decide +kernel
theorem dX7_isSafe_34 : decode cX7_isSafe 34 = .ok (.if_icmp .gt 7, 3) := by decide +kernel
theorem dX7_isSafe_37 : decode cX7_isSafe 37 = .ok (.iconst 1, 1) := by decide +kernel
theorem dX7_isSafe_38 : decode cX7_isSafe 38 = .ok (.goto 4, 3) := by decide +kernel
theorem dX7_isSafe_41 : decode cX7_isSafe 41 = .ok (.iconst 0, 1) := by decide +kernel
theorem dX7_isSafe_42 : decode cX7_isSafe 42 = .ok (.istore_n 2, 1) := by decide +kernel
theorem dX7_isSafe_43 : decode cX7_isSafe 43 = .ok (.iinc 3 1, 3) := by decide +kernel
theorem dX7_isSafe_46 : decode cX7_isSafe 46 = .ok (.goto (-42), 3) := by decide +kernel
theorem dX7_isSafe_49 : decode cX7_isSafe 49 = .ok (.iload_n 2, 1) := by decide +kernel
theorem dX7_isSafe_50 : decode cX7_isSafe 50 = .ok (.ireturn, 1) := by decide +kernel
def rmX7_isSafe : Room := { frames := 3, cells := 0, slots := 0, locals := 66 }
abbrev eX7_isSafe := Ev cX7_isSafe 4 (some .boolean) RX7 rmX7_isSafe
set_option maxRecDepth 20000 in
theorem ev_X7_isSafe_l4 (l1 : Int32)  (K : Int32 → St → Prop) (Q : Bool → Prop) (σ0 : St) (hK : ∀ k2 s, K k2 s → s = σ0 → eX7_isSafe 49 [un, un, .int (k2), un] [] s (qB fun x s => s = σ0 ∧ Q x)) : ∀ (n : Nat) (l2 : Int32) (l3 : Int32) (σ : St), σ = σ0 → P_X7_isSafe_l4 l1 K Q n l2 l3 σ → eX7_isSafe 4 [.ref (49), .int (l1), .int (l2), .int (l3)] [] σ (qB fun x s => s = σ0 ∧ Q x) := by
  intro n
  induction n with
  | zero => intro l2 l3 σ hs hP; exact hP.elim
  | succ n ih =>
    intro l2 l3 σ hs hP
    subst hs
    rw [P_X7_isSafe_l4] at hP
    refine E_iload_n dX7_isSafe_4 rfl ?_
    refine E_iconst (v := 3) dX7_isSafe_5 (by decide) ?_
    refine E_icmp_ge 49 dX7_isSafe_6 (by decide) (fun hc => ?_) (fun hc => ?_)
    · replace hP := hP.1 hc
      refine E_mask [false, false, true, false] rfl ?_
      exact hK (l2) _ hP rfl
    · replace hP := hP.2 hc
      refine E_iload_n dX7_isSafe_9 rfl ?_
      refine E_if_eq 41 dX7_isSafe_10 (by decide) (fun hc => ?_) (fun hc => ?_)
      · replace hP := hP.1 hc
        refine E_iconst (v := 0) dX7_isSafe_41 (by decide) ?_
        refine E_istore_n (ls' := [.ref (49), .int (l1), .int (0), .int (l3)]) dX7_isSafe_42 (by decide) rfl ?_
        refine E_iinc (ls' := [.ref (49), .int (l1), .int (0), .int (l3 + 1)]) dX7_isSafe_43 rfl rfl (by decide) rfl ?_
        refine E_goto 4 dX7_isSafe_46 (by decide) ?_
        exact ih (0) (l3 + 1) _ rfl hP
      · replace hP := hP.2 hc
        refine E_aload_n dX7_isSafe_13 rfl ?_
        refine E_iload_n dX7_isSafe_14 rfl ?_
        refine E_callV (As := [.int (l3)]) (rest := []) dX7_isSafe_15 cl_RX7_90 tw_495 (show kd 49 = 7 by decide) (by decide) rfl tw_496 ⟨rfl, rfl, Nat.le_of_ble_eq_true rfl, Nat.le_of_ble_eq_true rfl⟩ rfl rfl (Nat.le_of_ble_eq_true rfl) (mt_X7_lies _ _ _  hP) ?_
        intro r0 s0 hq0; obtain ⟨r15, h0, hs0, hP⟩ := hq0; subst h0; rw [hs0]
        show eX7_isSafe 18 [.ref (49), .int (l1), .int (l2), .int (l3)] [.int (bI r15)] σ _
        refine E_ifz_eq 37 dX7_isSafe_18 (by decide) (fun hc => ?_) (fun hc => ?_)
        · replace hP := hP.1 hc
          refine E_iconst (v := 1) dX7_isSafe_37 (by decide) ?_
          refine E_goto 42 dX7_isSafe_38 (by decide) ?_
          refine E_istore_n (ls' := [.ref (49), .int (l1), .int (1), .int (l3)]) dX7_isSafe_42 (by decide) rfl ?_
          refine E_iinc (ls' := [.ref (49), .int (l1), .int (1), .int (l3 + 1)]) dX7_isSafe_43 rfl rfl (by decide) rfl ?_
          refine E_goto 4 dX7_isSafe_46 (by decide) ?_
          exact ih (1) (l3 + 1) _ rfl hP
        · replace hP := hP.2 hc
          refine E_aload_n dX7_isSafe_21 rfl ?_
          refine E_iload_n dX7_isSafe_22 rfl ?_
          refine E_iload_n dX7_isSafe_23 rfl ?_
          refine E_callV (As := [.int (l1), .int (l3)]) (rest := []) dX7_isSafe_24 cl_RX7_93 tw_491 (show kd 49 = 7 by decide) (by decide) rfl tw_492 ⟨rfl, rfl, Nat.le_of_ble_eq_true rfl, Nat.le_of_ble_eq_true rfl⟩ rfl rfl (Nat.le_of_ble_eq_true rfl) (mt_X7_unlikeAt _ _ _ _  hP) ?_
          intro r0 s0 hq0; obtain ⟨r24, h0, hs0, hP⟩ := hq0; subst h0; rw [hs0]
          show eX7_isSafe 27 [.ref (49), .int (l1), .int (l2), .int (l3)] [.int (r24)] σ _
          refine E_aload_n dX7_isSafe_27 rfl ?_
          refine E_getR (j := 0) dX7_isSafe_28 (show kd 49 = 7 by decide) (by decide) rfl fd_RX7_7 (by decide) ?_
          refine E_bipush (v := 93) dX7_isSafe_31 (by decide) ?_
          refine E_iald dX7_isSafe_33 (ar_7_1 (show kd 49 = 7 by decide)).1 (ar_7_1 (show kd 49 = 7 by decide)).2 (vp_c (by decide)) ?_
          refine E_icmp_gt 41 dX7_isSafe_34 (by decide) (fun hc => ?_) (fun hc => ?_)
          · replace hP := hP.1 hc
            refine E_iconst (v := 0) dX7_isSafe_41 (by decide) ?_
            refine E_istore_n (ls' := [.ref (49), .int (l1), .int (0), .int (l3)]) dX7_isSafe_42 (by decide) rfl ?_
            refine E_iinc (ls' := [.ref (49), .int (l1), .int (0), .int (l3 + 1)]) dX7_isSafe_43 rfl rfl (by decide) rfl ?_
            refine E_goto 4 dX7_isSafe_46 (by decide) ?_
            exact ih (0) (l3 + 1) _ rfl hP
          · replace hP := hP.2 hc
            refine E_iconst (v := 1) dX7_isSafe_37 (by decide) ?_
            refine E_goto 42 dX7_isSafe_38 (by decide) ?_
            refine E_istore_n (ls' := [.ref (49), .int (l1), .int (1), .int (l3)]) dX7_isSafe_42 (by decide) rfl ?_
            refine E_iinc (ls' := [.ref (49), .int (l1), .int (1), .int (l3 + 1)]) dX7_isSafe_43 rfl rfl (by decide) rfl ?_
            refine E_goto 4 dX7_isSafe_46 (by decide) ?_
            exact ih (1) (l3 + 1) _ rfl hP
set_option maxRecDepth 20000 in
theorem mt_X7_isSafe (p0 : Int32) (σ : St) (Q : Bool → Prop)  (hP : P_X7_isSafe p0 σ Q) : Mt yX7_isSafe cX7_isSafe 4 (some .boolean) rmX7_isSafe [.ref (49), .int (p0)] σ (qB fun x s => s = σ ∧ Q x) := by
  refine Mt.of (k := 2) (ls := [.ref (49), .int (p0), un, un]) (by decide +kernel) rfl (Nat.le_of_ble_eq_true rfl) ?_
  show eX7_isSafe 0 [.ref (49), .int (p0), un, un] [] σ _
  unfold P_X7_isSafe at hP
  refine E_iconst (v := 1) dX7_isSafe_0 (by decide) ?_
  refine E_istore_n (ls' := [.ref (49), .int (p0), .int (1), un]) dX7_isSafe_1 (by decide) rfl ?_
  refine E_iconst (v := 0) dX7_isSafe_2 (by decide) ?_
  refine E_istore_n (ls' := [.ref (49), .int (p0), .int (1), .int (0)]) dX7_isSafe_3 (by decide) rfl ?_
  obtain ⟨m4, hP⟩ := hP
  refine ev_X7_isSafe_l4 (p0)  _ Q σ ?_ m4 _ _ _ rfl hP
  intro k2 t49 hP hs
  rw [hs]
  refine E_iload_n dX7_isSafe_49 rfl ?_
  obtain ⟨hb, hP⟩ := hP
  exact E_nret dX7_isSafe_50 rfl (nar_is hb) ⟨_, by rw [bI_nz hb], rfl, hP⟩
theorem dX7_canPull_0 : decode cX7_canPull 0 = .ok (.iload_n 1, 1) := by decide +kernel
theorem dX7_canPull_1 : decode cX7_canPull 1 = .ok (.iload_n 2, 1) := by decide +kernel
theorem dX7_canPull_2 : decode cX7_canPull 2 = .ok (.invokestatic 77, 3) := by decide +kernel
theorem dX7_canPull_5 : decode cX7_canPull 5 = .ok (.istore_n 3, 1) := by decide +kernel
theorem dX7_canPull_6 : decode cX7_canPull 6 = .ok (.iload_n 3, 1) := by decide +kernel
theorem dX7_canPull_7 : decode cX7_canPull 7 = .ok (.ifCond .le 37, 3) := by decide +kernel
theorem dX7_canPull_10 : decode cX7_canPull 10 = .ok (.aload_n 0, 1) := by decide +kernel
theorem dX7_canPull_11 : decode cX7_canPull 11 = .ok (.iload_n 2, 1) := by decide +kernel
theorem dX7_canPull_12 : decode cX7_canPull 12 = .ok (.aload_n 0, 1) := by decide +kernel
theorem dX7_canPull_13 : decode cX7_canPull 13 = .ok (.iload_n 2, 1) := by decide +kernel
theorem dX7_canPull_14 : decode cX7_canPull 14 = .ok (.invokevirtual 66, 3) := by decide +kernel
theorem dX7_canPull_17 : decode cX7_canPull 17 = .ok (.iload_n 3, 1) := by decide +kernel
theorem dX7_canPull_18 : decode cX7_canPull 18 = .ok (.isub, 1) := by decide +kernel
theorem dX7_canPull_19 : decode cX7_canPull 19 = .ok (.iload_n 1, 1) := by decide +kernel
theorem dX7_canPull_20 : decode cX7_canPull 20 = .ok (.invokevirtual 96, 3) := by decide +kernel
theorem dX7_canPull_23 : decode cX7_canPull 23 = .ok (.ifCond .eq 21, 3) := by decide +kernel
theorem dX7_canPull_26 : decode cX7_canPull 26 = .ok (.aload_n 0, 1) := by decide +kernel
theorem dX7_canPull_27 : decode cX7_canPull 27 = .ok (.iload_n 1, 1) := by decide +kernel
theorem dX7_canPull_28 : decode cX7_canPull 28 = .ok (.iconst 1, 1) := by decide +kernel
theorem dX7_canPull_29 : decode cX7_canPull 29 = .ok (.iconst 3, 1) := by decide +kernel
theorem dX7_canPull_30 : decode cX7_canPull 30 = .ok (.iload_n 2, 1) := by decide +kernel
theorem dX7_canPull_31 : decode cX7_canPull 31 = .ok (.imul, 1) := by decide +kernel
theorem dX7_canPull_32 : decode cX7_canPull 32 = .ok (.ishl, 1) := by decide +kernel
theorem dX7_canPull_33 : decode cX7_canPull 33 = .ok (.isub, 1) := by decide +kernel
theorem dX7_canPull_34 : decode cX7_canPull 34 = .ok (.invokevirtual 99, 3) := by decide +kernel
theorem dX7_canPull_37 : decode cX7_canPull 37 = .ok (.ifCond .eq 7, 3) := by decide +kernel
theorem dX7_canPull_40 : decode cX7_canPull 40 = .ok (.iconst 1, 1) := by decide +kernel
theorem dX7_canPull_41 : decode cX7_canPull 41 = .ok (.goto 4, 3) := by decide +kernel
theorem dX7_canPull_44 : decode cX7_canPull 44 = .ok (.iconst 0, 1) := by decide +kernel
theorem dX7_canPull_45 : decode cX7_canPull 45 = .ok (.ireturn, 1) := by decide +kernel
def rmX7_canPull : Room := { frames := 4, cells := 0, slots := 0, locals := 89 }
abbrev eX7_canPull := Ev cX7_canPull 4 (some .boolean) RX7 rmX7_canPull
set_option maxRecDepth 20000 in
theorem mt_X7_canPull (p0 : Int32) (p1 : Int32) (σ : St) (Q : Bool → Prop)  (hP : P_X7_canPull p0 p1 σ Q) : Mt yX7_canPull cX7_canPull 4 (some .boolean) rmX7_canPull [.ref (49), .int (p0), .int (p1)] σ (qB fun x s => s = σ ∧ Q x) := by
  refine Mt.of (k := 1) (ls := [.ref (49), .int (p0), .int (p1), un]) (by decide +kernel) rfl (Nat.le_of_ble_eq_true rfl) ?_
  show eX7_canPull 0 [.ref (49), .int (p0), .int (p1), un] [] σ _
  unfold P_X7_canPull at hP
  refine E_iload_n dX7_canPull_0 rfl ?_
  refine E_iload_n dX7_canPull_1 rfl ?_
  refine E_callS (As := [.int (p0), .int (p1)]) (rest := []) dX7_canPull_2 cl_RX7_77 tw_474 ⟨rfl, rfl, Nat.le_of_ble_eq_true rfl, Nat.le_of_ble_eq_true rfl⟩ rfl rfl (Nat.le_of_ble_eq_true rfl) (mt_X7_left _ _ _ _  hP) ?_
  intro r0 s0 hq0; obtain ⟨r2, h0, hs0, hP⟩ := hq0; subst h0; rw [hs0]
  show eX7_canPull 5 [.ref (49), .int (p0), .int (p1), un] [.int (r2)] σ _
  refine E_istore_n (ls' := [.ref (49), .int (p0), .int (p1), .int (r2)]) dX7_canPull_5 (by decide) rfl ?_
  refine E_iload_n dX7_canPull_6 rfl ?_
  refine E_if_le 44 dX7_canPull_7 (by decide) (fun hc => ?_) (fun hc => ?_)
  · replace hP := hP.1 hc
    refine E_iconst (v := 0) dX7_canPull_44 (by decide) ?_
    exact E_nret dX7_canPull_45 rfl (nar_b false) ⟨false, rfl, rfl, hP⟩
  · replace hP := hP.2 hc
    refine E_aload_n dX7_canPull_10 rfl ?_
    refine E_iload_n dX7_canPull_11 rfl ?_
    refine E_aload_n dX7_canPull_12 rfl ?_
    refine E_iload_n dX7_canPull_13 rfl ?_
    refine E_callV (As := [.int (p1)]) (rest := [.int (p1), .ref (49)]) dX7_canPull_14 cl_RX7_66 tw_460 (show kd 49 = 7 by decide) (by decide) rfl tw_461 ⟨rfl, rfl, Nat.le_of_ble_eq_true rfl, Nat.le_of_ble_eq_true rfl⟩ rfl rfl (Nat.le_of_ble_eq_true rfl) (mt_X7_many _ _ _  hP) ?_
    intro r0 s0 hq0; obtain ⟨r14, h0, hs0, hP⟩ := hq0; subst h0; rw [hs0]
    show eX7_canPull 17 [.ref (49), .int (p0), .int (p1), .int (r2)] [.int (r14), .int (p1), .ref (49)] σ _
    refine E_iload_n dX7_canPull_17 rfl ?_
    refine E_isub dX7_canPull_18 ?_
    refine E_iload_n dX7_canPull_19 rfl ?_
    refine E_callV (As := [.int (p1), .int (r14 - r2), .int (p0)]) (rest := []) dX7_canPull_20 cl_RX7_96 tw_503 (show kd 49 = 7 by decide) (by decide) rfl tw_504 ⟨rfl, rfl, Nat.le_of_ble_eq_true rfl, Nat.le_of_ble_eq_true rfl⟩ rfl rfl (Nat.le_of_ble_eq_true rfl) (mt_X7_mayGo _ _ _ _ _  hP) ?_
    intro r0 s0 hq0; obtain ⟨r20, h0, hs0, hP⟩ := hq0; subst h0; rw [hs0]
    show eX7_canPull 23 [.ref (49), .int (p0), .int (p1), .int (r2)] [.int (bI r20)] σ _
    refine E_ifz_eq 44 dX7_canPull_23 (by decide) (fun hc => ?_) (fun hc => ?_)
    · replace hP := hP.1 hc
      refine E_iconst (v := 0) dX7_canPull_44 (by decide) ?_
      exact E_nret dX7_canPull_45 rfl (nar_b false) ⟨false, rfl, rfl, hP⟩
    · replace hP := hP.2 hc
      refine E_aload_n dX7_canPull_26 rfl ?_
      refine E_iload_n dX7_canPull_27 rfl ?_
      refine E_iconst (v := 1) dX7_canPull_28 (by decide) ?_
      refine E_iconst (v := 3) dX7_canPull_29 (by decide) ?_
      refine E_iload_n dX7_canPull_30 rfl ?_
      refine E_imul dX7_canPull_31 ?_
      refine E_ishl dX7_canPull_32 ?_
      refine E_isub dX7_canPull_33 ?_
      refine E_callV (As := [.int (p0 - (1 <<< ((3 * p1) &&& 31)))]) (rest := []) dX7_canPull_34 cl_RX7_99 tw_499 (show kd 49 = 7 by decide) (by decide) rfl tw_500 ⟨rfl, rfl, Nat.le_of_ble_eq_true rfl, Nat.le_of_ble_eq_true rfl⟩ rfl rfl (Nat.le_of_ble_eq_true rfl) (mt_X7_isSafe _ _ _  hP) ?_
      intro r0 s0 hq0; obtain ⟨r34, h0, hs0, hP⟩ := hq0; subst h0; rw [hs0]
      show eX7_canPull 37 [.ref (49), .int (p0), .int (p1), .int (r2)] [.int (bI r34)] σ _
      refine E_ifz_eq 44 dX7_canPull_37 (by decide) (fun hc => ?_) (fun hc => ?_)
      · replace hP := hP.1 hc
        refine E_iconst (v := 0) dX7_canPull_44 (by decide) ?_
        exact E_nret dX7_canPull_45 rfl (nar_b false) ⟨false, rfl, rfl, hP⟩
      · replace hP := hP.2 hc
        refine E_iconst (v := 1) dX7_canPull_40 (by decide) ?_
        refine E_goto 45 dX7_canPull_41 (by decide) ?_
        exact E_nret dX7_canPull_45 rfl (nar_b true) ⟨true, rfl, rfl, hP⟩
theorem dX7_addStone_0 : decode cX7_addStone 0 = .ok (.aload_n 0, 1) := by decide +kernel
theorem dX7_addStone_1 : decode cX7_addStone 1 = .ok (.iload_n 2, 1) := by decide +kernel
theorem dX7_addStone_2 : decode cX7_addStone 2 = .ok (.invokevirtual 66, 3) := by decide +kernel
theorem dX7_addStone_5 : decode cX7_addStone 5 = .ok (.istore 5, 2) := by decide +kernel
theorem dX7_addStone_7 : decode cX7_addStone 7 = .ok (.aload_n 0, 1) := by decide +kernel
theorem dX7_addStone_8 : decode cX7_addStone 8 = .ok (.getfield 7, 3) := by decide +kernel
theorem dX7_addStone_11 : decode cX7_addStone 11 = .ok (.iload_n 2, 1) := by decide +kernel
theorem dX7_addStone_12 : decode cX7_addStone 12 = .ok (.iload 5, 2) := by decide +kernel
theorem dX7_addStone_14 : decode cX7_addStone 14 = .ok (.iconst 0, 1) := by decide +kernel
theorem dX7_addStone_15 : decode cX7_addStone 15 = .ok (.invokestatic 70, 3) := by decide +kernel
theorem dX7_addStone_18 : decode cX7_addStone 18 = .ok (.iload_n 1, 1) := by decide +kernel
theorem dX7_addStone_19 : decode cX7_addStone 19 = .ok (.iastore, 1) := by decide +kernel
theorem dX7_addStone_20 : decode cX7_addStone 20 = .ok (.aload_n 0, 1) := by decide +kernel
theorem dX7_addStone_21 : decode cX7_addStone 21 = .ok (.getfield 7, 3) := by decide +kernel
theorem dX7_addStone_24 : decode cX7_addStone 24 = .ok (.iload_n 2, 1) := by decide +kernel
theorem dX7_addStone_25 : decode cX7_addStone 25 = .ok (.iload 5, 2) := by decide +kernel
theorem dX7_addStone_27 : decode cX7_addStone 27 = .ok (.iconst 1, 1) := by decide +kernel
theorem dX7_addStone_28 : decode cX7_addStone 28 = .ok (.invokestatic 70, 3) := by decide +kernel
theorem dX7_addStone_31 : decode cX7_addStone 31 = .ok (.iload_n 3, 1) := by decide +kernel
theorem dX7_addStone_32 : decode cX7_addStone 32 = .ok (.iastore, 1) := by decide +kernel
theorem dX7_addStone_33 : decode cX7_addStone 33 = .ok (.aload_n 0, 1) := by decide +kernel
theorem dX7_addStone_34 : decode cX7_addStone 34 = .ok (.getfield 7, 3) := by decide +kernel
theorem dX7_addStone_37 : decode cX7_addStone 37 = .ok (.iload_n 2, 1) := by decide +kernel
theorem dX7_addStone_38 : decode cX7_addStone 38 = .ok (.iload 5, 2) := by decide +kernel
theorem dX7_addStone_40 : decode cX7_addStone 40 = .ok (.iconst 2, 1) := by decide +kernel
theorem dX7_addStone_41 : decode cX7_addStone 41 = .ok (.invokestatic 70, 3) := by decide +kernel
theorem dX7_addStone_44 : decode cX7_addStone 44 = .ok (.iload 4, 2) := by decide +kernel
theorem dX7_addStone_46 : decode cX7_addStone 46 = .ok (.iastore, 1) := by decide +kernel
theorem dX7_addStone_47 : decode cX7_addStone 47 = .ok (.aload_n 0, 1) := by decide +kernel
theorem dX7_addStone_48 : decode cX7_addStone 48 = .ok (.getfield 7, 3) := by decide +kernel
theorem dX7_addStone_51 : decode cX7_addStone 51 = .ok (.bipush 23, 2) := by decide +kernel
theorem dX7_addStone_53 : decode cX7_addStone 53 = .ok (.iload_n 2, 1) := by decide +kernel
theorem dX7_addStone_54 : decode cX7_addStone 54 = .ok (.imul, 1) := by decide +kernel
theorem dX7_addStone_55 : decode cX7_addStone 55 = .ok (.iconst 0, 1) := by decide +kernel
theorem dX7_addStone_56 : decode cX7_addStone 56 = .ok (.iadd, 1) := by decide +kernel
theorem dX7_addStone_57 : decode cX7_addStone 57 = .ok (.dup2, 1) := by decide +kernel
theorem dX7_addStone_58 : decode cX7_addStone 58 = .ok (.iaload, 1) := by decide +kernel
theorem dX7_addStone_59 : decode cX7_addStone 59 = .ok (.iconst 1, 1) := by decide +kernel
theorem dX7_addStone_60 : decode cX7_addStone 60 = .ok (.iadd, 1) := by decide +kernel
theorem dX7_addStone_61 : decode cX7_addStone 61 = .ok (.iastore, 1) := by decide +kernel
theorem dX7_addStone_62 : decode cX7_addStone 62 = .ok (.return_, 1) := by decide +kernel
def rmX7_addStone : Room := { frames := 1, cells := 0, slots := 0, locals := 22 }
abbrev eX7_addStone := Ev cX7_addStone 6 none RX7 rmX7_addStone
set_option maxRecDepth 20000 in
theorem mt_X7_addStone (p0 : Int32) (p1 : Int32) (p2 : Int32) (p3 : Int32) (σ : St) (Q : St → Prop)  (hP : P_X7_addStone p0 p1 p2 p3 σ Q) : Mt yX7_addStone cX7_addStone 6 none rmX7_addStone [.ref (49), .int (p0), .int (p1), .int (p2), .int (p3)] σ (qV Q) := by
  refine Mt.of (k := 1) (ls := [.ref (49), .int (p0), .int (p1), .int (p2), .int (p3), un]) (by decide +kernel) rfl (Nat.le_of_ble_eq_true rfl) ?_
  show eX7_addStone 0 [.ref (49), .int (p0), .int (p1), .int (p2), .int (p3), un] [] σ _
  unfold P_X7_addStone at hP
  refine E_aload_n dX7_addStone_0 rfl ?_
  refine E_iload_n dX7_addStone_1 rfl ?_
  refine E_callV (As := [.int (p1)]) (rest := []) dX7_addStone_2 cl_RX7_66 tw_460 (show kd 49 = 7 by decide) (by decide) rfl tw_461 ⟨rfl, rfl, Nat.le_of_ble_eq_true rfl, Nat.le_of_ble_eq_true rfl⟩ rfl rfl (Nat.le_of_ble_eq_true rfl) (mt_X7_many _ _ _  hP) ?_
  intro r0 s0 hq0; obtain ⟨r2, h0, hs0, hP⟩ := hq0; subst h0; rw [hs0]
  show eX7_addStone 5 [.ref (49), .int (p0), .int (p1), .int (p2), .int (p3), un] [.int (r2)] σ _
  refine E_istore (ls' := [.ref (49), .int (p0), .int (p1), .int (p2), .int (p3), .int (r2)]) dX7_addStone_5 (by decide) rfl ?_
  refine E_aload_n dX7_addStone_7 rfl ?_
  refine E_getR (j := 0) dX7_addStone_8 (show kd 49 = 7 by decide) (by decide) rfl fd_RX7_7 (by decide) ?_
  refine E_iload_n dX7_addStone_11 rfl ?_
  refine E_iload dX7_addStone_12 rfl ?_
  refine E_iconst (v := 0) dX7_addStone_14 (by decide) ?_
  refine E_callS (As := [.int (p1), .int (r2), .int (0)]) (rest := [.ref (50)]) dX7_addStone_15 cl_RX7_70 tw_467 ⟨rfl, rfl, Nat.le_of_ble_eq_true rfl, Nat.le_of_ble_eq_true rfl⟩ rfl rfl (Nat.le_of_ble_eq_true rfl) (mt_X7_at _ _ _ _ _  hP) ?_
  intro r0 s0 hq0; obtain ⟨r15, h0, hs0, hP⟩ := hq0; subst h0; rw [hs0]
  show eX7_addStone 18 [.ref (49), .int (p0), .int (p1), .int (p2), .int (p3), .int (r2)] [.int (r15), .ref (50)] σ _
  refine E_iload_n dX7_addStone_18 rfl ?_
  obtain ⟨hb, hP⟩ := hP
  refine E_iast dX7_addStone_19 (ar_7_1 (show kd 49 = 7 by decide)).1 (ar_7_1 (show kd 49 = 7 by decide)).2 hb ?_
  refine E_aload_n dX7_addStone_20 rfl ?_
  refine E_getR (j := 0) dX7_addStone_21 (show kd 49 = 7 by decide) (by decide) rfl fd_RX7_7 (by decide) ?_
  refine E_iload_n dX7_addStone_24 rfl ?_
  refine E_iload dX7_addStone_25 rfl ?_
  refine E_iconst (v := 1) dX7_addStone_27 (by decide) ?_
  refine E_callS (As := [.int (p1), .int (r2), .int (1)]) (rest := [.ref (50)]) dX7_addStone_28 cl_RX7_70 tw_467 ⟨rfl, rfl, Nat.le_of_ble_eq_true rfl, Nat.le_of_ble_eq_true rfl⟩ rfl rfl (Nat.le_of_ble_eq_true rfl) (mt_X7_at _ _ _ _ _  hP) ?_
  intro r0 s0 hq0; obtain ⟨r28, h0, hs0, hP⟩ := hq0; subst h0; rw [hs0]
  show eX7_addStone 31 [.ref (49), .int (p0), .int (p1), .int (p2), .int (p3), .int (r2)] [.int (r28), .ref (50)] (sI σ 50 (r15.toNatClampNeg) p0) _
  refine E_iload_n dX7_addStone_31 rfl ?_
  obtain ⟨hb, hP⟩ := hP
  refine E_iast dX7_addStone_32 (ar_7_1 (show kd 49 = 7 by decide)).1 (ar_7_1 (show kd 49 = 7 by decide)).2 hb ?_
  refine E_nm (fun s32 hs32 => ?_)
  replace hP := hP s32 hs32
  refine E_aload_n dX7_addStone_33 rfl ?_
  refine E_getR (j := 0) dX7_addStone_34 (show kd 49 = 7 by decide) (by decide) rfl fd_RX7_7 (by decide) ?_
  refine E_iload_n dX7_addStone_37 rfl ?_
  refine E_iload dX7_addStone_38 rfl ?_
  refine E_iconst (v := 2) dX7_addStone_40 (by decide) ?_
  refine E_callS (As := [.int (p1), .int (r2), .int (2)]) (rest := [.ref (50)]) dX7_addStone_41 cl_RX7_70 tw_467 ⟨rfl, rfl, Nat.le_of_ble_eq_true rfl, Nat.le_of_ble_eq_true rfl⟩ rfl rfl (Nat.le_of_ble_eq_true rfl) (mt_X7_at _ _ _ _ _  hP) ?_
  intro r0 s0 hq0; obtain ⟨r41, h0, hs0, hP⟩ := hq0; subst h0; rw [hs0]
  show eX7_addStone 44 [.ref (49), .int (p0), .int (p1), .int (p2), .int (p3), .int (r2)] [.int (r41), .ref (50)] s32 _
  refine E_iload dX7_addStone_44 rfl ?_
  obtain ⟨hb, hP⟩ := hP
  refine E_iast dX7_addStone_46 (ar_7_1 (show kd 49 = 7 by decide)).1 (ar_7_1 (show kd 49 = 7 by decide)).2 hb ?_
  refine E_aload_n dX7_addStone_47 rfl ?_
  refine E_getR (j := 0) dX7_addStone_48 (show kd 49 = 7 by decide) (by decide) rfl fd_RX7_7 (by decide) ?_
  refine E_bipush (v := 23) dX7_addStone_51 (by decide) ?_
  refine E_iload_n dX7_addStone_53 rfl ?_
  refine E_imul dX7_addStone_54 ?_
  refine E_iconst (v := 0) dX7_addStone_55 (by decide) ?_
  refine E_iadd dX7_addStone_56 ?_
  refine E_dup2 dX7_addStone_57 rfl rfl ?_
  obtain ⟨hb, hP⟩ := hP
  refine E_iald dX7_addStone_58 (ar_7_1 (show kd 49 = 7 by decide)).1 (ar_7_1 (show kd 49 = 7 by decide)).2 hb ?_
  refine E_iconst (v := 1) dX7_addStone_59 (by decide) ?_
  refine E_iadd dX7_addStone_60 ?_
  obtain ⟨hb, hP⟩ := hP
  refine E_iast dX7_addStone_61 (ar_7_1 (show kd 49 = 7 by decide)).1 (ar_7_1 (show kd 49 = 7 by decide)).2 hb ?_
  exact E_vret dX7_addStone_62 rfl ⟨rfl, hP⟩
theorem dX7_stone_0 : decode cX7_stone 0 = .ok (.iload_n 1, 1) := by decide +kernel
theorem dX7_stone_1 : decode cX7_stone 1 = .ok (.invokestatic 102, 3) := by decide +kernel
theorem dX7_stone_4 : decode cX7_stone 4 = .ok (.ifCond .eq 20, 3) := by decide +kernel
theorem dX7_stone_7 : decode cX7_stone 7 = .ok (.iload_n 2, 1) := by decide +kernel
theorem dX7_stone_8 : decode cX7_stone 8 = .ok (.invokestatic 62, 3) := by decide +kernel
theorem dX7_stone_11 : decode cX7_stone 11 = .ok (.ifCond .eq 13, 3) := by decide +kernel
theorem dX7_stone_14 : decode cX7_stone 14 = .ok (.iload_n 3, 1) := by decide +kernel
theorem dX7_stone_15 : decode cX7_stone 15 = .ok (.iconst 1, 1) := by decide +kernel
theorem dX7_stone_16 : decode cX7_stone 16 = .ok (.bipush 30, 2) := by decide +kernel
theorem dX7_stone_18 : decode cX7_stone 18 = .ok (.invokestatic 58, 3) := by decide +kernel
theorem dX7_stone_21 : decode cX7_stone 21 = .ok (.ifCond .ne 10, 3) := by decide +kernel
theorem dX7_stone_24 : decode cX7_stone 24 = .ok (.aload_n 0, 1) := by decide +kernel
theorem dX7_stone_25 : decode cX7_stone 25 = .ok (.ldc 57, 2) := by decide +kernel
theorem dX7_stone_27 : decode cX7_stone 27 = .ok (.invokevirtual 105, 3) := by decide +kernel
theorem dX7_stone_30 : decode cX7_stone 30 = .ok (.ireturn, 1) := by decide +kernel
theorem dX7_stone_31 : decode cX7_stone 31 = .ok (.aload_n 0, 1) := by decide +kernel
theorem dX7_stone_32 : decode cX7_stone 32 = .ok (.iload_n 2, 1) := by decide +kernel
theorem dX7_stone_33 : decode cX7_stone 33 = .ok (.invokevirtual 66, 3) := by decide +kernel
theorem dX7_stone_36 : decode cX7_stone 36 = .ok (.bipush 7, 2) := by decide +kernel
theorem dX7_stone_38 : decode cX7_stone 38 = .ok (.if_icmp .ne 10, 3) := by decide +kernel
theorem dX7_stone_41 : decode cX7_stone 41 = .ok (.aload_n 0, 1) := by decide +kernel
theorem dX7_stone_42 : decode cX7_stone 42 = .ok (.ldc 108, 2) := by decide +kernel
theorem dX7_stone_44 : decode cX7_stone 44 = .ok (.invokevirtual 105, 3) := by decide +kernel
theorem dX7_stone_47 : decode cX7_stone 47 = .ok (.ireturn, 1) := by decide +kernel
theorem dX7_stone_48 : decode cX7_stone 48 = .ok (.aload_n 0, 1) := by decide +kernel
theorem dX7_stone_49 : decode cX7_stone 49 = .ok (.iload_n 1, 1) := by decide +kernel
theorem dX7_stone_50 : decode cX7_stone 50 = .ok (.iload_n 2, 1) := by decide +kernel
theorem dX7_stone_51 : decode cX7_stone 51 = .ok (.iload_n 3, 1) := by decide +kernel
theorem dX7_stone_52 : decode cX7_stone 52 = .ok (.bipush 10, 2) := by decide +kernel
theorem dX7_stone_54 : decode cX7_stone 54 = .ok (.invokevirtual 109, 3) := by decide +kernel
theorem dX7_stone_57 : decode cX7_stone 57 = .ok (.aload_n 0, 1) := by decide +kernel
theorem dX7_stone_58 : decode cX7_stone 58 = .ok (.iload_n 2, 1) := by decide +kernel
theorem dX7_stone_59 : decode cX7_stone 59 = .ok (.invokevirtual 66, 3) := by decide +kernel
theorem dX7_stone_62 : decode cX7_stone 62 = .ok (.iconst 1, 1) := by decide +kernel
theorem dX7_stone_63 : decode cX7_stone 63 = .ok (.isub, 1) := by decide +kernel
theorem dX7_stone_64 : decode cX7_stone 64 = .ok (.ireturn, 1) := by decide +kernel
def rmX7_stone : Room := { frames := 2, cells := 0, slots := 0, locals := 47 }
abbrev eX7_stone := Ev cX7_stone 4 (some .int) RX7 rmX7_stone
set_option maxRecDepth 20000 in
theorem mt_X7_stone (p0 : Int32) (p1 : Int32) (p2 : Int32) (σ : St) (Q : Int32 → St → Prop)  (hP : P_X7_stone p0 p1 p2 σ Q) : Mt yX7_stone cX7_stone 4 (some .int) rmX7_stone [.ref (49), .int (p0), .int (p1), .int (p2)] σ (qI Q) := by
  refine Mt.of (k := 0) (ls := [.ref (49), .int (p0), .int (p1), .int (p2)]) (by decide +kernel) rfl (Nat.le_of_ble_eq_true rfl) ?_
  show eX7_stone 0 [.ref (49), .int (p0), .int (p1), .int (p2)] [] σ _
  unfold P_X7_stone at hP
  refine E_iload_n dX7_stone_0 rfl ?_
  refine E_callS (As := [.int (p0)]) (rest := []) dX7_stone_1 cl_RX7_102 tw_516 ⟨rfl, rfl, Nat.le_of_ble_eq_true rfl, Nat.le_of_ble_eq_true rfl⟩ rfl rfl (Nat.le_of_ble_eq_true rfl) (mt_X7_isKind _ _ _  hP) ?_
  intro r0 s0 hq0; obtain ⟨r1, h0, hs0, hP⟩ := hq0; subst h0; rw [hs0]
  show eX7_stone 4 [.ref (49), .int (p0), .int (p1), .int (p2)] [.int (bI r1)] σ _
  refine E_ifz_eq 24 dX7_stone_4 (by decide) (fun hc => ?_) (fun hc => ?_)
  · replace hP := hP.1 hc
    refine E_aload_n dX7_stone_24 rfl ?_
    refine E_ldc (v := (-1000000001)) dX7_stone_25 tw_452 ?_
    refine E_callV (As := [.int ((-1000000001))]) (rest := []) dX7_stone_27 cl_RX7_105 tw_507 (show kd 49 = 7 by decide) (by decide) rfl tw_508 ⟨rfl, rfl, Nat.le_of_ble_eq_true rfl, Nat.le_of_ble_eq_true rfl⟩ rfl rfl (Nat.le_of_ble_eq_true rfl) (mt_X7_finds _ _ _  hP) ?_
    rintro _ t27 ⟨r27, rfl, hP⟩
    show eX7_stone 30 [.ref (49), .int (p0), .int (p1), .int (p2)] [.int (r27)] t27 _
    exact E_iret dX7_stone_30 rfl ⟨_, rfl, hP⟩
  · replace hP := hP.2 hc
    refine E_iload_n dX7_stone_7 rfl ?_
    refine E_callS (As := [.int (p1)]) (rest := []) dX7_stone_8 cl_RX7_62 tw_464 ⟨rfl, rfl, Nat.le_of_ble_eq_true rfl, Nat.le_of_ble_eq_true rfl⟩ rfl rfl (Nat.le_of_ble_eq_true rfl) (mt_X7_isWall _ _ _  hP) ?_
    intro r0 s0 hq0; obtain ⟨r8, h0, hs0, hP⟩ := hq0; subst h0; rw [hs0]
    show eX7_stone 11 [.ref (49), .int (p0), .int (p1), .int (p2)] [.int (bI r8)] σ _
    refine E_ifz_eq 24 dX7_stone_11 (by decide) (fun hc => ?_) (fun hc => ?_)
    · replace hP := hP.1 hc
      refine E_aload_n dX7_stone_24 rfl ?_
      refine E_ldc (v := (-1000000001)) dX7_stone_25 tw_452 ?_
      refine E_callV (As := [.int ((-1000000001))]) (rest := []) dX7_stone_27 cl_RX7_105 tw_507 (show kd 49 = 7 by decide) (by decide) rfl tw_508 ⟨rfl, rfl, Nat.le_of_ble_eq_true rfl, Nat.le_of_ble_eq_true rfl⟩ rfl rfl (Nat.le_of_ble_eq_true rfl) (mt_X7_finds _ _ _  hP) ?_
      rintro _ t27 ⟨r27, rfl, hP⟩
      show eX7_stone 30 [.ref (49), .int (p0), .int (p1), .int (p2)] [.int (r27)] t27 _
      exact E_iret dX7_stone_30 rfl ⟨_, rfl, hP⟩
    · replace hP := hP.2 hc
      refine E_iload_n dX7_stone_14 rfl ?_
      refine E_iconst (v := 1) dX7_stone_15 (by decide) ?_
      refine E_bipush (v := 30) dX7_stone_16 (by decide) ?_
      refine E_callS (As := [.int (p2), .int (1), .int (30)]) (rest := []) dX7_stone_18 cl_RX7_58 tw_456 ⟨rfl, rfl, Nat.le_of_ble_eq_true rfl, Nat.le_of_ble_eq_true rfl⟩ rfl rfl (Nat.le_of_ble_eq_true rfl) (mt_X7_in _ _ _ _ _  hP) ?_
      intro r0 s0 hq0; obtain ⟨r18, h0, hs0, hP⟩ := hq0; subst h0; rw [hs0]
      show eX7_stone 21 [.ref (49), .int (p0), .int (p1), .int (p2)] [.int (bI r18)] σ _
      refine E_ifz_ne 31 dX7_stone_21 (by decide) (fun hc => ?_) (fun hc => ?_)
      · replace hP := hP.1 hc
        refine E_aload_n dX7_stone_31 rfl ?_
        refine E_iload_n dX7_stone_32 rfl ?_
        refine E_callV (As := [.int (p1)]) (rest := []) dX7_stone_33 cl_RX7_66 tw_460 (show kd 49 = 7 by decide) (by decide) rfl tw_461 ⟨rfl, rfl, Nat.le_of_ble_eq_true rfl, Nat.le_of_ble_eq_true rfl⟩ rfl rfl (Nat.le_of_ble_eq_true rfl) (mt_X7_many _ _ _  hP) ?_
        intro r0 s0 hq0; obtain ⟨r33, h0, hs0, hP⟩ := hq0; subst h0; rw [hs0]
        show eX7_stone 36 [.ref (49), .int (p0), .int (p1), .int (p2)] [.int (r33)] σ _
        refine E_bipush (v := 7) dX7_stone_36 (by decide) ?_
        refine E_icmp_ne 48 dX7_stone_38 (by decide) (fun hc => ?_) (fun hc => ?_)
        · replace hP := hP.1 hc
          refine E_aload_n dX7_stone_48 rfl ?_
          refine E_iload_n dX7_stone_49 rfl ?_
          refine E_iload_n dX7_stone_50 rfl ?_
          refine E_iload_n dX7_stone_51 rfl ?_
          refine E_bipush (v := 10) dX7_stone_52 (by decide) ?_
          refine E_callV (As := [.int (p0), .int (p1), .int (p2), .int (10)]) (rest := []) dX7_stone_54 cl_RX7_109 tw_511 (show kd 49 = 7 by decide) (by decide) rfl tw_512 ⟨rfl, rfl, Nat.le_of_ble_eq_true rfl, Nat.le_of_ble_eq_true rfl⟩ rfl rfl (Nat.le_of_ble_eq_true rfl) (mt_X7_addStone _ _ _ _ _ _  hP) ?_
          rintro _ t54 ⟨rfl, hP⟩
          show eX7_stone 57 [.ref (49), .int (p0), .int (p1), .int (p2)] [] t54 _
          refine E_aload_n dX7_stone_57 rfl ?_
          refine E_iload_n dX7_stone_58 rfl ?_
          refine E_callV (As := [.int (p1)]) (rest := []) dX7_stone_59 cl_RX7_66 tw_460 (show kd 49 = 7 by decide) (by decide) rfl tw_461 ⟨rfl, rfl, Nat.le_of_ble_eq_true rfl, Nat.le_of_ble_eq_true rfl⟩ rfl rfl (Nat.le_of_ble_eq_true rfl) (mt_X7_many _ _ _  hP) ?_
          intro r0 s0 hq0; obtain ⟨r59, h0, hs0, hP⟩ := hq0; subst h0; rw [hs0]
          show eX7_stone 62 [.ref (49), .int (p0), .int (p1), .int (p2)] [.int (r59)] t54 _
          refine E_iconst (v := 1) dX7_stone_62 (by decide) ?_
          refine E_isub dX7_stone_63 ?_
          exact E_iret dX7_stone_64 rfl ⟨_, rfl, hP⟩
        · replace hP := hP.2 hc
          refine E_aload_n dX7_stone_41 rfl ?_
          refine E_ldc (v := (-1000000002)) dX7_stone_42 tw_513 ?_
          refine E_callV (As := [.int ((-1000000002))]) (rest := []) dX7_stone_44 cl_RX7_105 tw_507 (show kd 49 = 7 by decide) (by decide) rfl tw_508 ⟨rfl, rfl, Nat.le_of_ble_eq_true rfl, Nat.le_of_ble_eq_true rfl⟩ rfl rfl (Nat.le_of_ble_eq_true rfl) (mt_X7_finds _ _ _  hP) ?_
          rintro _ t44 ⟨r44, rfl, hP⟩
          show eX7_stone 47 [.ref (49), .int (p0), .int (p1), .int (p2)] [.int (r44)] t44 _
          exact E_iret dX7_stone_47 rfl ⟨_, rfl, hP⟩
      · replace hP := hP.2 hc
        refine E_aload_n dX7_stone_24 rfl ?_
        refine E_ldc (v := (-1000000001)) dX7_stone_25 tw_452 ?_
        refine E_callV (As := [.int ((-1000000001))]) (rest := []) dX7_stone_27 cl_RX7_105 tw_507 (show kd 49 = 7 by decide) (by decide) rfl tw_508 ⟨rfl, rfl, Nat.le_of_ble_eq_true rfl, Nat.le_of_ble_eq_true rfl⟩ rfl rfl (Nat.le_of_ble_eq_true rfl) (mt_X7_finds _ _ _  hP) ?_
        rintro _ t27 ⟨r27, rfl, hP⟩
        show eX7_stone 30 [.ref (49), .int (p0), .int (p1), .int (p2)] [.int (r27)] t27 _
        exact E_iret dX7_stone_30 rfl ⟨_, rfl, hP⟩
theorem dX7_wallOf_0 : decode cX7_wallOf 0 = .ok (.iload_n 1, 1) := by decide +kernel
theorem dX7_wallOf_1 : decode cX7_wallOf 1 = .ok (.invokestatic 62, 3) := by decide +kernel
theorem dX7_wallOf_4 : decode cX7_wallOf 4 = .ok (.ifCond .eq 12, 3) := by decide +kernel
theorem dX7_wallOf_7 : decode cX7_wallOf 7 = .ok (.iload_n 2, 1) := by decide +kernel
theorem dX7_wallOf_8 : decode cX7_wallOf 8 = .ok (.iconst 0, 1) := by decide +kernel
theorem dX7_wallOf_9 : decode cX7_wallOf 9 = .ok (.iconst 3, 1) := by decide +kernel
theorem dX7_wallOf_10 : decode cX7_wallOf 10 = .ok (.invokestatic 58, 3) := by decide +kernel
theorem dX7_wallOf_13 : decode cX7_wallOf 13 = .ok (.ifCond .ne 10, 3) := by decide +kernel
theorem dX7_wallOf_16 : decode cX7_wallOf 16 = .ok (.aload_n 0, 1) := by decide +kernel
theorem dX7_wallOf_17 : decode cX7_wallOf 17 = .ok (.ldc 57, 2) := by decide +kernel
theorem dX7_wallOf_19 : decode cX7_wallOf 19 = .ok (.invokevirtual 105, 3) := by decide +kernel
theorem dX7_wallOf_22 : decode cX7_wallOf 22 = .ok (.ireturn, 1) := by decide +kernel
theorem dX7_wallOf_23 : decode cX7_wallOf 23 = .ok (.aload_n 0, 1) := by decide +kernel
theorem dX7_wallOf_24 : decode cX7_wallOf 24 = .ok (.invokevirtual 113, 3) := by decide +kernel
theorem dX7_wallOf_27 : decode cX7_wallOf 27 = .ok (.iload_n 2, 1) := by decide +kernel
theorem dX7_wallOf_28 : decode cX7_wallOf 28 = .ok (.iconst 2, 1) := by decide +kernel
theorem dX7_wallOf_29 : decode cX7_wallOf 29 = .ok (.if_icmp .ge 17, 3) := by decide +kernel
theorem dX7_wallOf_32 : decode cX7_wallOf 32 = .ok (.aload_n 0, 1) := by decide +kernel
theorem dX7_wallOf_33 : decode cX7_wallOf 33 = .ok (.getfield 7, 3) := by decide +kernel
theorem dX7_wallOf_36 : decode cX7_wallOf 36 = .ok (.bipush 23, 2) := by decide +kernel
theorem dX7_wallOf_38 : decode cX7_wallOf 38 = .ok (.iload_n 1, 1) := by decide +kernel
theorem dX7_wallOf_39 : decode cX7_wallOf 39 = .ok (.imul, 1) := by decide +kernel
theorem dX7_wallOf_40 : decode cX7_wallOf 40 = .ok (.iload_n 2, 1) := by decide +kernel
theorem dX7_wallOf_41 : decode cX7_wallOf 41 = .ok (.iadd, 1) := by decide +kernel
theorem dX7_wallOf_42 : decode cX7_wallOf 42 = .ok (.iaload, 1) := by decide +kernel
theorem dX7_wallOf_43 : decode cX7_wallOf 43 = .ok (.goto 35, 3) := by decide +kernel
theorem dX7_wallOf_46 : decode cX7_wallOf 46 = .ok (.iload_n 2, 1) := by decide +kernel
theorem dX7_wallOf_47 : decode cX7_wallOf 47 = .ok (.iconst 2, 1) := by decide +kernel
theorem dX7_wallOf_48 : decode cX7_wallOf 48 = .ok (.if_icmp .ne 21, 3) := by decide +kernel
theorem dX7_wallOf_51 : decode cX7_wallOf 51 = .ok (.aload_n 0, 1) := by decide +kernel
theorem dX7_wallOf_52 : decode cX7_wallOf 52 = .ok (.getfield 16, 3) := by decide +kernel
theorem dX7_wallOf_55 : decode cX7_wallOf 55 = .ok (.bipush 8, 2) := by decide +kernel
theorem dX7_wallOf_57 : decode cX7_wallOf 57 = .ok (.iload_n 1, 1) := by decide +kernel
theorem dX7_wallOf_58 : decode cX7_wallOf 58 = .ok (.imul, 1) := by decide +kernel
theorem dX7_wallOf_59 : decode cX7_wallOf 59 = .ok (.aload_n 0, 1) := by decide +kernel
theorem dX7_wallOf_60 : decode cX7_wallOf 60 = .ok (.iload_n 1, 1) := by decide +kernel
theorem dX7_wallOf_61 : decode cX7_wallOf 61 = .ok (.invokevirtual 66, 3) := by decide +kernel
theorem dX7_wallOf_64 : decode cX7_wallOf 64 = .ok (.iadd, 1) := by decide +kernel
theorem dX7_wallOf_65 : decode cX7_wallOf 65 = .ok (.iaload, 1) := by decide +kernel
theorem dX7_wallOf_66 : decode cX7_wallOf 66 = .ok (.goto 12, 3) := by decide +kernel
theorem dX7_wallOf_69 : decode cX7_wallOf 69 = .ok (.aload_n 0, 1) := by decide +kernel
theorem dX7_wallOf_70 : decode cX7_wallOf 70 = .ok (.getfield 19, 3) := by decide +kernel
theorem dX7_wallOf_73 : decode cX7_wallOf 73 = .ok (.bipush 8, 2) := by decide +kernel
theorem dX7_wallOf_75 : decode cX7_wallOf 75 = .ok (.iload_n 1, 1) := by decide +kernel
theorem dX7_wallOf_76 : decode cX7_wallOf 76 = .ok (.imul, 1) := by decide +kernel
theorem dX7_wallOf_77 : decode cX7_wallOf 77 = .ok (.iaload, 1) := by decide +kernel
theorem dX7_wallOf_78 : decode cX7_wallOf 78 = .ok (.ireturn, 1) := by decide +kernel
def rmX7_wallOf : Room := { frames := 4, cells := 0, slots := 0, locals := 93 }
abbrev eX7_wallOf := Ev cX7_wallOf 3 (some .int) RX7 rmX7_wallOf
set_option maxRecDepth 20000 in
theorem mt_X7_wallOf (p0 : Int32) (p1 : Int32) (σ : St) (Q : Int32 → St → Prop)  (hP : P_X7_wallOf p0 p1 σ Q) : Mt yX7_wallOf cX7_wallOf 3 (some .int) rmX7_wallOf [.ref (49), .int (p0), .int (p1)] σ (qI Q) := by
  refine Mt.of (k := 0) (ls := [.ref (49), .int (p0), .int (p1)]) (by decide +kernel) rfl (Nat.le_of_ble_eq_true rfl) ?_
  show eX7_wallOf 0 [.ref (49), .int (p0), .int (p1)] [] σ _
  unfold P_X7_wallOf at hP
  refine E_iload_n dX7_wallOf_0 rfl ?_
  refine E_callS (As := [.int (p0)]) (rest := []) dX7_wallOf_1 cl_RX7_62 tw_464 ⟨rfl, rfl, Nat.le_of_ble_eq_true rfl, Nat.le_of_ble_eq_true rfl⟩ rfl rfl (Nat.le_of_ble_eq_true rfl) (mt_X7_isWall _ _ _  hP) ?_
  intro r0 s0 hq0; obtain ⟨r1, h0, hs0, hP⟩ := hq0; subst h0; rw [hs0]
  show eX7_wallOf 4 [.ref (49), .int (p0), .int (p1)] [.int (bI r1)] σ _
  refine E_ifz_eq 16 dX7_wallOf_4 (by decide) (fun hc => ?_) (fun hc => ?_)
  · replace hP := hP.1 hc
    refine E_aload_n dX7_wallOf_16 rfl ?_
    refine E_ldc (v := (-1000000001)) dX7_wallOf_17 tw_452 ?_
    refine E_callV (As := [.int ((-1000000001))]) (rest := []) dX7_wallOf_19 cl_RX7_105 tw_507 (show kd 49 = 7 by decide) (by decide) rfl tw_508 ⟨rfl, rfl, Nat.le_of_ble_eq_true rfl, Nat.le_of_ble_eq_true rfl⟩ rfl rfl (Nat.le_of_ble_eq_true rfl) (mt_X7_finds _ _ _  hP) ?_
    rintro _ t19 ⟨r19, rfl, hP⟩
    show eX7_wallOf 22 [.ref (49), .int (p0), .int (p1)] [.int (r19)] t19 _
    exact E_iret dX7_wallOf_22 rfl ⟨_, rfl, hP⟩
  · replace hP := hP.2 hc
    refine E_iload_n dX7_wallOf_7 rfl ?_
    refine E_iconst (v := 0) dX7_wallOf_8 (by decide) ?_
    refine E_iconst (v := 3) dX7_wallOf_9 (by decide) ?_
    refine E_callS (As := [.int (p1), .int (0), .int (3)]) (rest := []) dX7_wallOf_10 cl_RX7_58 tw_456 ⟨rfl, rfl, Nat.le_of_ble_eq_true rfl, Nat.le_of_ble_eq_true rfl⟩ rfl rfl (Nat.le_of_ble_eq_true rfl) (mt_X7_in _ _ _ _ _  hP) ?_
    intro r0 s0 hq0; obtain ⟨r10, h0, hs0, hP⟩ := hq0; subst h0; rw [hs0]
    show eX7_wallOf 13 [.ref (49), .int (p0), .int (p1)] [.int (bI r10)] σ _
    refine E_ifz_ne 23 dX7_wallOf_13 (by decide) (fun hc => ?_) (fun hc => ?_)
    · replace hP := hP.1 hc
      refine E_aload_n dX7_wallOf_23 rfl ?_
      refine E_callV (As := []) (rest := []) dX7_wallOf_24 cl_RX7_113 tw_519 (show kd 49 = 7 by decide) (by decide) rfl tw_520 ⟨rfl, rfl, Nat.le_of_ble_eq_true rfl, Nat.le_of_ble_eq_true rfl⟩ rfl rfl (Nat.le_of_ble_eq_true rfl) (mt_X7_findTops  _ _  hP) ?_
      rintro _ t24 ⟨rfl, hP⟩
      show eX7_wallOf 27 [.ref (49), .int (p0), .int (p1)] [] t24 _
      refine E_iload_n dX7_wallOf_27 rfl ?_
      refine E_iconst (v := 2) dX7_wallOf_28 (by decide) ?_
      refine E_icmp_ge 46 dX7_wallOf_29 (by decide) (fun hc => ?_) (fun hc => ?_)
      · replace hP := hP.1 hc
        refine E_iload_n dX7_wallOf_46 rfl ?_
        refine E_iconst (v := 2) dX7_wallOf_47 (by decide) ?_
        refine E_icmp_ne 69 dX7_wallOf_48 (by decide) (fun hc => ?_) (fun hc => ?_)
        · replace hP := hP.1 hc
          refine E_aload_n dX7_wallOf_69 rfl ?_
          refine E_getR (j := 3) dX7_wallOf_70 (show kd 49 = 7 by decide) (by decide) rfl fd_RX7_19 (by decide) ?_
          refine E_bipush (v := 8) dX7_wallOf_73 (by decide) ?_
          refine E_iload_n dX7_wallOf_75 rfl ?_
          refine E_imul dX7_wallOf_76 ?_
          obtain ⟨hb, hP⟩ := hP
          refine E_iald dX7_wallOf_77 (ar_7_4 (show kd 49 = 7 by decide)).1 (ar_7_4 (show kd 49 = 7 by decide)).2 hb ?_
          exact E_iret dX7_wallOf_78 rfl ⟨_, rfl, hP⟩
        · replace hP := hP.2 hc
          refine E_aload_n dX7_wallOf_51 rfl ?_
          refine E_getR (j := 2) dX7_wallOf_52 (show kd 49 = 7 by decide) (by decide) rfl fd_RX7_16 (by decide) ?_
          refine E_bipush (v := 8) dX7_wallOf_55 (by decide) ?_
          refine E_iload_n dX7_wallOf_57 rfl ?_
          refine E_imul dX7_wallOf_58 ?_
          refine E_aload_n dX7_wallOf_59 rfl ?_
          refine E_iload_n dX7_wallOf_60 rfl ?_
          refine E_callV (As := [.int (p0)]) (rest := [.int (8 * p0), .ref (52)]) dX7_wallOf_61 cl_RX7_66 tw_460 (show kd 49 = 7 by decide) (by decide) rfl tw_461 ⟨rfl, rfl, Nat.le_of_ble_eq_true rfl, Nat.le_of_ble_eq_true rfl⟩ rfl rfl (Nat.le_of_ble_eq_true rfl) (mt_X7_many _ _ _  hP) ?_
          intro r0 s0 hq0; obtain ⟨r61, h0, hs0, hP⟩ := hq0; subst h0; rw [hs0]
          show eX7_wallOf 64 [.ref (49), .int (p0), .int (p1)] [.int (r61), .int (8 * p0), .ref (52)] t24 _
          refine E_iadd dX7_wallOf_64 ?_
          obtain ⟨hb, hP⟩ := hP
          refine E_iald dX7_wallOf_65 (ar_7_3 (show kd 49 = 7 by decide)).1 (ar_7_3 (show kd 49 = 7 by decide)).2 hb ?_
          refine E_goto 78 dX7_wallOf_66 (by decide) ?_
          exact E_iret dX7_wallOf_78 rfl ⟨_, rfl, hP⟩
      · replace hP := hP.2 hc
        refine E_aload_n dX7_wallOf_32 rfl ?_
        refine E_getR (j := 0) dX7_wallOf_33 (show kd 49 = 7 by decide) (by decide) rfl fd_RX7_7 (by decide) ?_
        refine E_bipush (v := 23) dX7_wallOf_36 (by decide) ?_
        refine E_iload_n dX7_wallOf_38 rfl ?_
        refine E_imul dX7_wallOf_39 ?_
        refine E_iload_n dX7_wallOf_40 rfl ?_
        refine E_iadd dX7_wallOf_41 ?_
        obtain ⟨hb, hP⟩ := hP
        refine E_iald dX7_wallOf_42 (ar_7_1 (show kd 49 = 7 by decide)).1 (ar_7_1 (show kd 49 = 7 by decide)).2 hb ?_
        refine E_goto 78 dX7_wallOf_43 (by decide) ?_
        exact E_iret dX7_wallOf_78 rfl ⟨_, rfl, hP⟩
    · replace hP := hP.2 hc
      refine E_aload_n dX7_wallOf_16 rfl ?_
      refine E_ldc (v := (-1000000001)) dX7_wallOf_17 tw_452 ?_
      refine E_callV (As := [.int ((-1000000001))]) (rest := []) dX7_wallOf_19 cl_RX7_105 tw_507 (show kd 49 = 7 by decide) (by decide) rfl tw_508 ⟨rfl, rfl, Nat.le_of_ble_eq_true rfl, Nat.le_of_ble_eq_true rfl⟩ rfl rfl (Nat.le_of_ble_eq_true rfl) (mt_X7_finds _ _ _  hP) ?_
      rintro _ t19 ⟨r19, rfl, hP⟩
      show eX7_wallOf 22 [.ref (49), .int (p0), .int (p1)] [.int (r19)] t19 _
      exact E_iret dX7_wallOf_22 rfl ⟨_, rfl, hP⟩
theorem dX7_of_0 : decode cX7_of 0 = .ok (.aload_n 0, 1) := by decide +kernel
theorem dX7_of_1 : decode cX7_of 1 = .ok (.iload_n 1, 1) := by decide +kernel
theorem dX7_of_2 : decode cX7_of 2 = .ok (.iload_n 2, 1) := by decide +kernel
theorem dX7_of_3 : decode cX7_of 3 = .ok (.invokevirtual 116, 3) := by decide +kernel
theorem dX7_of_6 : decode cX7_of 6 = .ok (.ifCond .eq 12, 3) := by decide +kernel
theorem dX7_of_9 : decode cX7_of 9 = .ok (.iload_n 3, 1) := by decide +kernel
theorem dX7_of_10 : decode cX7_of 10 = .ok (.iconst 0, 1) := by decide +kernel
theorem dX7_of_11 : decode cX7_of 11 = .ok (.iconst 5, 1) := by decide +kernel
theorem dX7_of_12 : decode cX7_of 12 = .ok (.invokestatic 58, 3) := by decide +kernel
theorem dX7_of_15 : decode cX7_of 15 = .ok (.ifCond .ne 10, 3) := by decide +kernel
theorem dX7_of_18 : decode cX7_of 18 = .ok (.aload_n 0, 1) := by decide +kernel
theorem dX7_of_19 : decode cX7_of 19 = .ok (.ldc 57, 2) := by decide +kernel
theorem dX7_of_21 : decode cX7_of 21 = .ok (.invokevirtual 105, 3) := by decide +kernel
theorem dX7_of_24 : decode cX7_of 24 = .ok (.ireturn, 1) := by decide +kernel
theorem dX7_of_25 : decode cX7_of 25 = .ok (.iload_n 3, 1) := by decide +kernel
theorem dX7_of_26 : decode cX7_of 26 = .ok (.iconst 3, 1) := by decide +kernel
theorem dX7_of_27 : decode cX7_of 27 = .ok (.if_icmp .ge 13, 3) := by decide +kernel
theorem dX7_of_30 : decode cX7_of 30 = .ok (.aload_n 0, 1) := by decide +kernel
theorem dX7_of_31 : decode cX7_of 31 = .ok (.iload_n 1, 1) := by decide +kernel
theorem dX7_of_32 : decode cX7_of 32 = .ok (.iload_n 2, 1) := by decide +kernel
theorem dX7_of_33 : decode cX7_of 33 = .ok (.iload_n 3, 1) := by decide +kernel
theorem dX7_of_34 : decode cX7_of 34 = .ok (.invokevirtual 74, 3) := by decide +kernel
theorem dX7_of_37 : decode cX7_of 37 = .ok (.goto 49, 3) := by decide +kernel
theorem dX7_of_40 : decode cX7_of 40 = .ok (.iload_n 3, 1) := by decide +kernel
theorem dX7_of_41 : decode cX7_of 41 = .ok (.iconst 3, 1) := by decide +kernel
theorem dX7_of_42 : decode cX7_of 42 = .ok (.if_icmp .ne 12, 3) := by decide +kernel
theorem dX7_of_45 : decode cX7_of 45 = .ok (.aload_n 0, 1) := by decide +kernel
theorem dX7_of_46 : decode cX7_of 46 = .ok (.iload_n 1, 1) := by decide +kernel
theorem dX7_of_47 : decode cX7_of 47 = .ok (.iload_n 2, 1) := by decide +kernel
theorem dX7_of_48 : decode cX7_of 48 = .ok (.invokevirtual 81, 3) := by decide +kernel
theorem dX7_of_51 : decode cX7_of 51 = .ok (.goto 35, 3) := by decide +kernel
theorem dX7_of_54 : decode cX7_of 54 = .ok (.iload_n 3, 1) := by decide +kernel
theorem dX7_of_55 : decode cX7_of 55 = .ok (.iconst 4, 1) := by decide +kernel
theorem dX7_of_56 : decode cX7_of 56 = .ok (.if_icmp .ne 12, 3) := by decide +kernel
theorem dX7_of_59 : decode cX7_of 59 = .ok (.aload_n 0, 1) := by decide +kernel
theorem dX7_of_60 : decode cX7_of 60 = .ok (.iload_n 1, 1) := by decide +kernel
theorem dX7_of_61 : decode cX7_of 61 = .ok (.iload_n 2, 1) := by decide +kernel
theorem dX7_of_62 : decode cX7_of 62 = .ok (.invokevirtual 84, 3) := by decide +kernel
theorem dX7_of_65 : decode cX7_of 65 = .ok (.goto 21, 3) := by decide +kernel
theorem dX7_of_68 : decode cX7_of 68 = .ok (.aload_n 0, 1) := by decide +kernel
theorem dX7_of_69 : decode cX7_of 69 = .ok (.iload_n 1, 1) := by decide +kernel
theorem dX7_of_70 : decode cX7_of 70 = .ok (.iload_n 2, 1) := by decide +kernel
theorem dX7_of_71 : decode cX7_of 71 = .ok (.aload_n 0, 1) := by decide +kernel
theorem dX7_of_72 : decode cX7_of 72 = .ok (.invokevirtual 120, 3) := by decide +kernel
theorem dX7_of_75 : decode cX7_of 75 = .ok (.invokevirtual 96, 3) := by decide +kernel
theorem dX7_of_78 : decode cX7_of 78 = .ok (.ifCond .eq 7, 3) := by decide +kernel
theorem dX7_of_81 : decode cX7_of 81 = .ok (.iconst 1, 1) := by decide +kernel
theorem dX7_of_82 : decode cX7_of 82 = .ok (.goto 4, 3) := by decide +kernel
theorem dX7_of_85 : decode cX7_of 85 = .ok (.iconst 0, 1) := by decide +kernel
theorem dX7_of_86 : decode cX7_of 86 = .ok (.ireturn, 1) := by decide +kernel
def rmX7_of : Room := { frames := 3, cells := 0, slots := 0, locals := 72 }
abbrev eX7_of := Ev cX7_of 4 (some .int) RX7 rmX7_of
set_option maxRecDepth 20000 in
theorem mt_X7_of (p0 : Int32) (p1 : Int32) (p2 : Int32) (σ : St) (Q : Int32 → St → Prop)  (hP : P_X7_of p0 p1 p2 σ Q) : Mt yX7_of cX7_of 4 (some .int) rmX7_of [.ref (49), .int (p0), .int (p1), .int (p2)] σ (qI Q) := by
  refine Mt.of (k := 0) (ls := [.ref (49), .int (p0), .int (p1), .int (p2)]) (by decide +kernel) rfl (Nat.le_of_ble_eq_true rfl) ?_
  show eX7_of 0 [.ref (49), .int (p0), .int (p1), .int (p2)] [] σ _
  unfold P_X7_of at hP
  refine E_aload_n dX7_of_0 rfl ?_
  refine E_iload_n dX7_of_1 rfl ?_
  refine E_iload_n dX7_of_2 rfl ?_
  refine E_callV (As := [.int (p0), .int (p1)]) (rest := []) dX7_of_3 cl_RX7_116 tw_527 (show kd 49 = 7 by decide) (by decide) rfl tw_528 ⟨rfl, rfl, Nat.le_of_ble_eq_true rfl, Nat.le_of_ble_eq_true rfl⟩ rfl rfl (Nat.le_of_ble_eq_true rfl) (mt_X7_isStone _ _ _ _  hP) ?_
  intro r0 s0 hq0; obtain ⟨r3, h0, hs0, hP⟩ := hq0; subst h0; rw [hs0]
  show eX7_of 6 [.ref (49), .int (p0), .int (p1), .int (p2)] [.int (bI r3)] σ _
  refine E_ifz_eq 18 dX7_of_6 (by decide) (fun hc => ?_) (fun hc => ?_)
  · replace hP := hP.1 hc
    refine E_aload_n dX7_of_18 rfl ?_
    refine E_ldc (v := (-1000000001)) dX7_of_19 tw_452 ?_
    refine E_callV (As := [.int ((-1000000001))]) (rest := []) dX7_of_21 cl_RX7_105 tw_507 (show kd 49 = 7 by decide) (by decide) rfl tw_508 ⟨rfl, rfl, Nat.le_of_ble_eq_true rfl, Nat.le_of_ble_eq_true rfl⟩ rfl rfl (Nat.le_of_ble_eq_true rfl) (mt_X7_finds _ _ _  hP) ?_
    rintro _ t21 ⟨r21, rfl, hP⟩
    show eX7_of 24 [.ref (49), .int (p0), .int (p1), .int (p2)] [.int (r21)] t21 _
    exact E_iret dX7_of_24 rfl ⟨_, rfl, hP⟩
  · replace hP := hP.2 hc
    refine E_iload_n dX7_of_9 rfl ?_
    refine E_iconst (v := 0) dX7_of_10 (by decide) ?_
    refine E_iconst (v := 5) dX7_of_11 (by decide) ?_
    refine E_callS (As := [.int (p2), .int (0), .int (5)]) (rest := []) dX7_of_12 cl_RX7_58 tw_456 ⟨rfl, rfl, Nat.le_of_ble_eq_true rfl, Nat.le_of_ble_eq_true rfl⟩ rfl rfl (Nat.le_of_ble_eq_true rfl) (mt_X7_in _ _ _ _ _  hP) ?_
    intro r0 s0 hq0; obtain ⟨r12, h0, hs0, hP⟩ := hq0; subst h0; rw [hs0]
    show eX7_of 15 [.ref (49), .int (p0), .int (p1), .int (p2)] [.int (bI r12)] σ _
    refine E_ifz_ne 25 dX7_of_15 (by decide) (fun hc => ?_) (fun hc => ?_)
    · replace hP := hP.1 hc
      refine E_iload_n dX7_of_25 rfl ?_
      refine E_iconst (v := 3) dX7_of_26 (by decide) ?_
      refine E_icmp_ge 40 dX7_of_27 (by decide) (fun hc => ?_) (fun hc => ?_)
      · replace hP := hP.1 hc
        refine E_iload_n dX7_of_40 rfl ?_
        refine E_iconst (v := 3) dX7_of_41 (by decide) ?_
        refine E_icmp_ne 54 dX7_of_42 (by decide) (fun hc => ?_) (fun hc => ?_)
        · replace hP := hP.1 hc
          refine E_iload_n dX7_of_54 rfl ?_
          refine E_iconst (v := 4) dX7_of_55 (by decide) ?_
          refine E_icmp_ne 68 dX7_of_56 (by decide) (fun hc => ?_) (fun hc => ?_)
          · replace hP := hP.1 hc
            refine E_aload_n dX7_of_68 rfl ?_
            refine E_iload_n dX7_of_69 rfl ?_
            refine E_iload_n dX7_of_70 rfl ?_
            refine E_aload_n dX7_of_71 rfl ?_
            refine E_callV (As := []) (rest := [.int (p1), .int (p0), .ref (49)]) dX7_of_72 cl_RX7_120 tw_523 (show kd 49 = 7 by decide) (by decide) rfl tw_524 ⟨rfl, rfl, Nat.le_of_ble_eq_true rfl, Nat.le_of_ble_eq_true rfl⟩ rfl rfl (Nat.le_of_ble_eq_true rfl) (mt_X7_standNow  _ _  hP) ?_
            intro r0 s0 hq0; obtain ⟨r72, h0, hs0, hP⟩ := hq0; subst h0; rw [hs0]
            show eX7_of 75 [.ref (49), .int (p0), .int (p1), .int (p2)] [.int (r72), .int (p1), .int (p0), .ref (49)] σ _
            refine E_callV (As := [.int (p0), .int (p1), .int (r72)]) (rest := []) dX7_of_75 cl_RX7_96 tw_503 (show kd 49 = 7 by decide) (by decide) rfl tw_504 ⟨rfl, rfl, Nat.le_of_ble_eq_true rfl, Nat.le_of_ble_eq_true rfl⟩ rfl rfl (Nat.le_of_ble_eq_true rfl) (mt_X7_mayGo _ _ _ _ _  hP) ?_
            intro r0 s0 hq0; obtain ⟨r75, h0, hs0, hP⟩ := hq0; subst h0; rw [hs0]
            show eX7_of 78 [.ref (49), .int (p0), .int (p1), .int (p2)] [.int (bI r75)] σ _
            refine E_ifz_eq 85 dX7_of_78 (by decide) (fun hc => ?_) (fun hc => ?_)
            · replace hP := hP.1 hc
              refine E_iconst (v := 0) dX7_of_85 (by decide) ?_
              exact E_iret dX7_of_86 rfl ⟨_, rfl, hP⟩
            · replace hP := hP.2 hc
              refine E_iconst (v := 1) dX7_of_81 (by decide) ?_
              refine E_goto 86 dX7_of_82 (by decide) ?_
              exact E_iret dX7_of_86 rfl ⟨_, rfl, hP⟩
          · replace hP := hP.2 hc
            refine E_aload_n dX7_of_59 rfl ?_
            refine E_iload_n dX7_of_60 rfl ?_
            refine E_iload_n dX7_of_61 rfl ?_
            refine E_callV (As := [.int (p0), .int (p1)]) (rest := []) dX7_of_62 cl_RX7_84 tw_483 (show kd 49 = 7 by decide) (by decide) rfl tw_484 ⟨rfl, rfl, Nat.le_of_ble_eq_true rfl, Nat.le_of_ble_eq_true rfl⟩ rfl rfl (Nat.le_of_ble_eq_true rfl) (mt_X7_coin _ _ _ _  hP) ?_
            intro r0 s0 hq0; obtain ⟨r62, h0, hs0, hP⟩ := hq0; subst h0; rw [hs0]
            show eX7_of 65 [.ref (49), .int (p0), .int (p1), .int (p2)] [.int (r62)] σ _
            refine E_goto 86 dX7_of_65 (by decide) ?_
            exact E_iret dX7_of_86 rfl ⟨_, rfl, hP⟩
        · replace hP := hP.2 hc
          refine E_aload_n dX7_of_45 rfl ?_
          refine E_iload_n dX7_of_46 rfl ?_
          refine E_iload_n dX7_of_47 rfl ?_
          refine E_callV (As := [.int (p0), .int (p1)]) (rest := []) dX7_of_48 cl_RX7_81 tw_478 (show kd 49 = 7 by decide) (by decide) rfl tw_479 ⟨rfl, rfl, Nat.le_of_ble_eq_true rfl, Nat.le_of_ble_eq_true rfl⟩ rfl rfl (Nat.le_of_ble_eq_true rfl) (mt_X7_tall _ _ _ _  hP) ?_
          intro r0 s0 hq0; obtain ⟨r48, h0, hs0, hP⟩ := hq0; subst h0; rw [hs0]
          show eX7_of 51 [.ref (49), .int (p0), .int (p1), .int (p2)] [.int (r48)] σ _
          refine E_goto 86 dX7_of_51 (by decide) ?_
          exact E_iret dX7_of_86 rfl ⟨_, rfl, hP⟩
      · replace hP := hP.2 hc
        refine E_aload_n dX7_of_30 rfl ?_
        refine E_iload_n dX7_of_31 rfl ?_
        refine E_iload_n dX7_of_32 rfl ?_
        refine E_iload_n dX7_of_33 rfl ?_
        refine E_callV (As := [.int (p0), .int (p1), .int (p2)]) (rest := []) dX7_of_34 cl_RX7_74 tw_470 (show kd 49 = 7 by decide) (by decide) rfl tw_471 ⟨rfl, rfl, Nat.le_of_ble_eq_true rfl, Nat.le_of_ble_eq_true rfl⟩ rfl rfl (Nat.le_of_ble_eq_true rfl) (mt_X7_its _ _ _ _ _  hP) ?_
        intro r0 s0 hq0; obtain ⟨r34, h0, hs0, hP⟩ := hq0; subst h0; rw [hs0]
        show eX7_of 37 [.ref (49), .int (p0), .int (p1), .int (p2)] [.int (r34)] σ _
        refine E_goto 86 dX7_of_37 (by decide) ?_
        exact E_iret dX7_of_86 rfl ⟨_, rfl, hP⟩
    · replace hP := hP.2 hc
      refine E_aload_n dX7_of_18 rfl ?_
      refine E_ldc (v := (-1000000001)) dX7_of_19 tw_452 ?_
      refine E_callV (As := [.int ((-1000000001))]) (rest := []) dX7_of_21 cl_RX7_105 tw_507 (show kd 49 = 7 by decide) (by decide) rfl tw_508 ⟨rfl, rfl, Nat.le_of_ble_eq_true rfl, Nat.le_of_ble_eq_true rfl⟩ rfl rfl (Nat.le_of_ble_eq_true rfl) (mt_X7_finds _ _ _  hP) ?_
      rintro _ t21 ⟨r21, rfl, hP⟩
      show eX7_of 24 [.ref (49), .int (p0), .int (p1), .int (p2)] [.int (r21)] t21 _
      exact E_iret dX7_of_24 rfl ⟨_, rfl, hP⟩
theorem dX7_set_0 : decode cX7_set 0 = .ok (.iload_n 3, 1) := by decide +kernel
theorem dX7_set_1 : decode cX7_set 1 = .ok (.iconst 1, 1) := by decide +kernel
theorem dX7_set_2 : decode cX7_set 2 = .ok (.if_icmp .ne 14, 3) := by decide +kernel
theorem dX7_set_5 : decode cX7_set 5 = .ok (.iload 4, 2) := by decide +kernel
theorem dX7_set_7 : decode cX7_set 7 = .ok (.iconst 1, 1) := by decide +kernel
theorem dX7_set_8 : decode cX7_set 8 = .ok (.bipush 30, 2) := by decide +kernel
theorem dX7_set_10 : decode cX7_set 10 = .ok (.invokestatic 58, 3) := by decide +kernel
theorem dX7_set_13 : decode cX7_set 13 = .ok (.goto 25, 3) := by decide +kernel
theorem dX7_set_16 : decode cX7_set 16 = .ok (.iload_n 3, 1) := by decide +kernel
theorem dX7_set_17 : decode cX7_set 17 = .ok (.iconst 2, 1) := by decide +kernel
theorem dX7_set_18 : decode cX7_set 18 = .ok (.if_icmp .ne 19, 3) := by decide +kernel
theorem dX7_set_21 : decode cX7_set 21 = .ok (.iload 4, 2) := by decide +kernel
theorem dX7_set_23 : decode cX7_set 23 = .ok (.iconst 0, 1) := by decide +kernel
theorem dX7_set_24 : decode cX7_set 24 = .ok (.sipush 999, 3) := by decide +kernel
theorem dX7_set_27 : decode cX7_set 27 = .ok (.invokestatic 58, 3) := by decide +kernel
theorem dX7_set_30 : decode cX7_set 30 = .ok (.ifCond .eq 7, 3) := by decide +kernel
theorem dX7_set_33 : decode cX7_set 33 = .ok (.iconst 1, 1) := by decide +kernel
theorem dX7_set_34 : decode cX7_set 34 = .ok (.goto 4, 3) := by decide +kernel
theorem dX7_set_37 : decode cX7_set 37 = .ok (.iconst 0, 1) := by decide +kernel
theorem dX7_set_38 : decode cX7_set 38 = .ok (.istore 5, 2) := by decide +kernel
theorem dX7_set_40 : decode cX7_set 40 = .ok (.aload_n 0, 1) := by decide +kernel
theorem dX7_set_41 : decode cX7_set 41 = .ok (.iload_n 1, 1) := by decide +kernel
theorem dX7_set_42 : decode cX7_set 42 = .ok (.iload_n 2, 1) := by decide +kernel
theorem dX7_set_43 : decode cX7_set 43 = .ok (.invokevirtual 116, 3) := by decide +kernel
theorem dX7_set_46 : decode cX7_set 46 = .ok (.ifCond .eq 8, 3) := by decide +kernel
theorem dX7_set_49 : decode cX7_set 49 = .ok (.iload 5, 2) := by decide +kernel
theorem dX7_set_51 : decode cX7_set 51 = .ok (.ifCond .ne 10, 3) := by decide +kernel
theorem dX7_set_54 : decode cX7_set 54 = .ok (.aload_n 0, 1) := by decide +kernel
theorem dX7_set_55 : decode cX7_set 55 = .ok (.ldc 57, 2) := by decide +kernel
theorem dX7_set_57 : decode cX7_set 57 = .ok (.invokevirtual 105, 3) := by decide +kernel
theorem dX7_set_60 : decode cX7_set 60 = .ok (.ireturn, 1) := by decide +kernel
theorem dX7_set_61 : decode cX7_set 61 = .ok (.aload_n 0, 1) := by decide +kernel
theorem dX7_set_62 : decode cX7_set 62 = .ok (.iload_n 1, 1) := by decide +kernel
theorem dX7_set_63 : decode cX7_set 63 = .ok (.iload_n 2, 1) := by decide +kernel
theorem dX7_set_64 : decode cX7_set 64 = .ok (.iload_n 3, 1) := by decide +kernel
theorem dX7_set_65 : decode cX7_set 65 = .ok (.invokevirtual 74, 3) := by decide +kernel
theorem dX7_set_68 : decode cX7_set 68 = .ok (.istore 6, 2) := by decide +kernel
theorem dX7_set_70 : decode cX7_set 70 = .ok (.aload_n 0, 1) := by decide +kernel
theorem dX7_set_71 : decode cX7_set 71 = .ok (.getfield 7, 3) := by decide +kernel
theorem dX7_set_74 : decode cX7_set 74 = .ok (.iload_n 1, 1) := by decide +kernel
theorem dX7_set_75 : decode cX7_set 75 = .ok (.iload_n 2, 1) := by decide +kernel
theorem dX7_set_76 : decode cX7_set 76 = .ok (.iload_n 3, 1) := by decide +kernel
theorem dX7_set_77 : decode cX7_set 77 = .ok (.invokestatic 70, 3) := by decide +kernel
theorem dX7_set_80 : decode cX7_set 80 = .ok (.iload 4, 2) := by decide +kernel
theorem dX7_set_82 : decode cX7_set 82 = .ok (.iastore, 1) := by decide +kernel
theorem dX7_set_83 : decode cX7_set 83 = .ok (.iload 6, 2) := by decide +kernel
theorem dX7_set_85 : decode cX7_set 85 = .ok (.ireturn, 1) := by decide +kernel
def rmX7_set : Room := { frames := 3, cells := 0, slots := 0, locals := 64 }
abbrev eX7_set := Ev cX7_set 7 (some .int) RX7 rmX7_set
set_option maxRecDepth 20000 in
theorem mt_X7_set (p0 : Int32) (p1 : Int32) (p2 : Int32) (p3 : Int32) (σ : St) (Q : Int32 → St → Prop)  (hP : P_X7_set p0 p1 p2 p3 σ Q) : Mt yX7_set cX7_set 7 (some .int) rmX7_set [.ref (49), .int (p0), .int (p1), .int (p2), .int (p3)] σ (qI Q) := by
  refine Mt.of (k := 2) (ls := [.ref (49), .int (p0), .int (p1), .int (p2), .int (p3), un, un]) (by decide +kernel) rfl (Nat.le_of_ble_eq_true rfl) ?_
  show eX7_set 0 [.ref (49), .int (p0), .int (p1), .int (p2), .int (p3), un, un] [] σ _
  unfold P_X7_set at hP
  refine E_iload_n dX7_set_0 rfl ?_
  refine E_iconst (v := 1) dX7_set_1 (by decide) ?_
  refine E_icmp_ne 16 dX7_set_2 (by decide) (fun hc => ?_) (fun hc => ?_)
  · replace hP := hP.1 hc
    refine E_iload_n dX7_set_16 rfl ?_
    refine E_iconst (v := 2) dX7_set_17 (by decide) ?_
    refine E_icmp_ne 37 dX7_set_18 (by decide) (fun hc => ?_) (fun hc => ?_)
    · replace hP := hP.1 hc
      refine E_iconst (v := 0) dX7_set_37 (by decide) ?_
      refine E_istore (ls' := [.ref (49), .int (p0), .int (p1), .int (p2), .int (p3), .int (0), un]) dX7_set_38 (by decide) rfl ?_
      refine E_aload_n dX7_set_40 rfl ?_
      refine E_iload_n dX7_set_41 rfl ?_
      refine E_iload_n dX7_set_42 rfl ?_
      refine E_callV (As := [.int (p0), .int (p1)]) (rest := []) dX7_set_43 cl_RX7_116 tw_527 (show kd 49 = 7 by decide) (by decide) rfl tw_528 ⟨rfl, rfl, Nat.le_of_ble_eq_true rfl, Nat.le_of_ble_eq_true rfl⟩ rfl rfl (Nat.le_of_ble_eq_true rfl) (mt_X7_isStone _ _ _ _  hP) ?_
      intro r0 s0 hq0; obtain ⟨r43, h0, hs0, hP⟩ := hq0; subst h0; rw [hs0]
      show eX7_set 46 [.ref (49), .int (p0), .int (p1), .int (p2), .int (p3), .int (0), un] [.int (bI r43)] σ _
      refine E_ifz_eq 54 dX7_set_46 (by decide) (fun hc => ?_) (fun hc => ?_)
      · replace hP := hP.1 hc
        refine E_aload_n dX7_set_54 rfl ?_
        refine E_ldc (v := (-1000000001)) dX7_set_55 tw_452 ?_
        refine E_callV (As := [.int ((-1000000001))]) (rest := []) dX7_set_57 cl_RX7_105 tw_507 (show kd 49 = 7 by decide) (by decide) rfl tw_508 ⟨rfl, rfl, Nat.le_of_ble_eq_true rfl, Nat.le_of_ble_eq_true rfl⟩ rfl rfl (Nat.le_of_ble_eq_true rfl) (mt_X7_finds _ _ _  hP) ?_
        rintro _ t57 ⟨r57, rfl, hP⟩
        show eX7_set 60 [.ref (49), .int (p0), .int (p1), .int (p2), .int (p3), .int (0), un] [.int (r57)] t57 _
        exact E_iret dX7_set_60 rfl ⟨_, rfl, hP⟩
      · replace hP := hP.2 hc
        refine E_iload dX7_set_49 rfl ?_
        refine E_if_ne 61 dX7_set_51 (by decide) (fun hc => absurd hc (by decide)) (fun _ => ?_)
        refine E_aload_n dX7_set_54 rfl ?_
        refine E_ldc (v := (-1000000001)) dX7_set_55 tw_452 ?_
        refine E_callV (As := [.int ((-1000000001))]) (rest := []) dX7_set_57 cl_RX7_105 tw_507 (show kd 49 = 7 by decide) (by decide) rfl tw_508 ⟨rfl, rfl, Nat.le_of_ble_eq_true rfl, Nat.le_of_ble_eq_true rfl⟩ rfl rfl (Nat.le_of_ble_eq_true rfl) (mt_X7_finds _ _ _  hP) ?_
        rintro _ t57 ⟨r57, rfl, hP⟩
        show eX7_set 60 [.ref (49), .int (p0), .int (p1), .int (p2), .int (p3), .int (0), un] [.int (r57)] t57 _
        exact E_iret dX7_set_60 rfl ⟨_, rfl, hP⟩
    · replace hP := hP.2 hc
      refine E_iload dX7_set_21 rfl ?_
      refine E_iconst (v := 0) dX7_set_23 (by decide) ?_
      refine E_sipush (v := 999) dX7_set_24 (by decide) ?_
      refine E_callS (As := [.int (p3), .int (0), .int (999)]) (rest := []) dX7_set_27 cl_RX7_58 tw_456 ⟨rfl, rfl, Nat.le_of_ble_eq_true rfl, Nat.le_of_ble_eq_true rfl⟩ rfl rfl (Nat.le_of_ble_eq_true rfl) (mt_X7_in _ _ _ _ _  hP) ?_
      intro r0 s0 hq0; obtain ⟨r27, h0, hs0, hP⟩ := hq0; subst h0; rw [hs0]
      show eX7_set 30 [.ref (49), .int (p0), .int (p1), .int (p2), .int (p3), un, un] [.int (bI r27)] σ _
      refine E_ifz_eq 37 dX7_set_30 (by decide) (fun hc => ?_) (fun hc => ?_)
      · replace hP := hP.1 hc
        refine E_iconst (v := 0) dX7_set_37 (by decide) ?_
        refine E_istore (ls' := [.ref (49), .int (p0), .int (p1), .int (p2), .int (p3), .int (0), un]) dX7_set_38 (by decide) rfl ?_
        refine E_aload_n dX7_set_40 rfl ?_
        refine E_iload_n dX7_set_41 rfl ?_
        refine E_iload_n dX7_set_42 rfl ?_
        refine E_callV (As := [.int (p0), .int (p1)]) (rest := []) dX7_set_43 cl_RX7_116 tw_527 (show kd 49 = 7 by decide) (by decide) rfl tw_528 ⟨rfl, rfl, Nat.le_of_ble_eq_true rfl, Nat.le_of_ble_eq_true rfl⟩ rfl rfl (Nat.le_of_ble_eq_true rfl) (mt_X7_isStone _ _ _ _  hP) ?_
        intro r0 s0 hq0; obtain ⟨r43, h0, hs0, hP⟩ := hq0; subst h0; rw [hs0]
        show eX7_set 46 [.ref (49), .int (p0), .int (p1), .int (p2), .int (p3), .int (0), un] [.int (bI r43)] σ _
        refine E_ifz_eq 54 dX7_set_46 (by decide) (fun hc => ?_) (fun hc => ?_)
        · replace hP := hP.1 hc
          refine E_aload_n dX7_set_54 rfl ?_
          refine E_ldc (v := (-1000000001)) dX7_set_55 tw_452 ?_
          refine E_callV (As := [.int ((-1000000001))]) (rest := []) dX7_set_57 cl_RX7_105 tw_507 (show kd 49 = 7 by decide) (by decide) rfl tw_508 ⟨rfl, rfl, Nat.le_of_ble_eq_true rfl, Nat.le_of_ble_eq_true rfl⟩ rfl rfl (Nat.le_of_ble_eq_true rfl) (mt_X7_finds _ _ _  hP) ?_
          rintro _ t57 ⟨r57, rfl, hP⟩
          show eX7_set 60 [.ref (49), .int (p0), .int (p1), .int (p2), .int (p3), .int (0), un] [.int (r57)] t57 _
          exact E_iret dX7_set_60 rfl ⟨_, rfl, hP⟩
        · replace hP := hP.2 hc
          refine E_iload dX7_set_49 rfl ?_
          refine E_if_ne 61 dX7_set_51 (by decide) (fun hc => absurd hc (by decide)) (fun _ => ?_)
          refine E_aload_n dX7_set_54 rfl ?_
          refine E_ldc (v := (-1000000001)) dX7_set_55 tw_452 ?_
          refine E_callV (As := [.int ((-1000000001))]) (rest := []) dX7_set_57 cl_RX7_105 tw_507 (show kd 49 = 7 by decide) (by decide) rfl tw_508 ⟨rfl, rfl, Nat.le_of_ble_eq_true rfl, Nat.le_of_ble_eq_true rfl⟩ rfl rfl (Nat.le_of_ble_eq_true rfl) (mt_X7_finds _ _ _  hP) ?_
          rintro _ t57 ⟨r57, rfl, hP⟩
          show eX7_set 60 [.ref (49), .int (p0), .int (p1), .int (p2), .int (p3), .int (0), un] [.int (r57)] t57 _
          exact E_iret dX7_set_60 rfl ⟨_, rfl, hP⟩
      · replace hP := hP.2 hc
        refine E_iconst (v := 1) dX7_set_33 (by decide) ?_
        refine E_goto 38 dX7_set_34 (by decide) ?_
        refine E_istore (ls' := [.ref (49), .int (p0), .int (p1), .int (p2), .int (p3), .int (1), un]) dX7_set_38 (by decide) rfl ?_
        refine E_aload_n dX7_set_40 rfl ?_
        refine E_iload_n dX7_set_41 rfl ?_
        refine E_iload_n dX7_set_42 rfl ?_
        refine E_callV (As := [.int (p0), .int (p1)]) (rest := []) dX7_set_43 cl_RX7_116 tw_527 (show kd 49 = 7 by decide) (by decide) rfl tw_528 ⟨rfl, rfl, Nat.le_of_ble_eq_true rfl, Nat.le_of_ble_eq_true rfl⟩ rfl rfl (Nat.le_of_ble_eq_true rfl) (mt_X7_isStone _ _ _ _  hP) ?_
        intro r0 s0 hq0; obtain ⟨r43, h0, hs0, hP⟩ := hq0; subst h0; rw [hs0]
        show eX7_set 46 [.ref (49), .int (p0), .int (p1), .int (p2), .int (p3), .int (1), un] [.int (bI r43)] σ _
        refine E_ifz_eq 54 dX7_set_46 (by decide) (fun hc => ?_) (fun hc => ?_)
        · replace hP := hP.1 hc
          refine E_aload_n dX7_set_54 rfl ?_
          refine E_ldc (v := (-1000000001)) dX7_set_55 tw_452 ?_
          refine E_callV (As := [.int ((-1000000001))]) (rest := []) dX7_set_57 cl_RX7_105 tw_507 (show kd 49 = 7 by decide) (by decide) rfl tw_508 ⟨rfl, rfl, Nat.le_of_ble_eq_true rfl, Nat.le_of_ble_eq_true rfl⟩ rfl rfl (Nat.le_of_ble_eq_true rfl) (mt_X7_finds _ _ _  hP) ?_
          rintro _ t57 ⟨r57, rfl, hP⟩
          show eX7_set 60 [.ref (49), .int (p0), .int (p1), .int (p2), .int (p3), .int (1), un] [.int (r57)] t57 _
          exact E_iret dX7_set_60 rfl ⟨_, rfl, hP⟩
        · replace hP := hP.2 hc
          refine E_iload dX7_set_49 rfl ?_
          refine E_if_ne 61 dX7_set_51 (by decide) (fun _ => ?_) (fun hc => absurd hc (by decide))
          refine E_aload_n dX7_set_61 rfl ?_
          refine E_iload_n dX7_set_62 rfl ?_
          refine E_iload_n dX7_set_63 rfl ?_
          refine E_iload_n dX7_set_64 rfl ?_
          refine E_callV (As := [.int (p0), .int (p1), .int (p2)]) (rest := []) dX7_set_65 cl_RX7_74 tw_470 (show kd 49 = 7 by decide) (by decide) rfl tw_471 ⟨rfl, rfl, Nat.le_of_ble_eq_true rfl, Nat.le_of_ble_eq_true rfl⟩ rfl rfl (Nat.le_of_ble_eq_true rfl) (mt_X7_its _ _ _ _ _  hP) ?_
          intro r0 s0 hq0; obtain ⟨r65, h0, hs0, hP⟩ := hq0; subst h0; rw [hs0]
          show eX7_set 68 [.ref (49), .int (p0), .int (p1), .int (p2), .int (p3), .int (1), un] [.int (r65)] σ _
          refine E_istore (ls' := [.ref (49), .int (p0), .int (p1), .int (p2), .int (p3), .int (1), .int (r65)]) dX7_set_68 (by decide) rfl ?_
          refine E_aload_n dX7_set_70 rfl ?_
          refine E_getR (j := 0) dX7_set_71 (show kd 49 = 7 by decide) (by decide) rfl fd_RX7_7 (by decide) ?_
          refine E_iload_n dX7_set_74 rfl ?_
          refine E_iload_n dX7_set_75 rfl ?_
          refine E_iload_n dX7_set_76 rfl ?_
          refine E_callS (As := [.int (p0), .int (p1), .int (p2)]) (rest := [.ref (50)]) dX7_set_77 cl_RX7_70 tw_467 ⟨rfl, rfl, Nat.le_of_ble_eq_true rfl, Nat.le_of_ble_eq_true rfl⟩ rfl rfl (Nat.le_of_ble_eq_true rfl) (mt_X7_at _ _ _ _ _  hP) ?_
          intro r0 s0 hq0; obtain ⟨r77, h0, hs0, hP⟩ := hq0; subst h0; rw [hs0]
          show eX7_set 80 [.ref (49), .int (p0), .int (p1), .int (p2), .int (p3), .int (1), .int (r65)] [.int (r77), .ref (50)] σ _
          refine E_iload dX7_set_80 rfl ?_
          obtain ⟨hb, hP⟩ := hP
          refine E_iast dX7_set_82 (ar_7_1 (show kd 49 = 7 by decide)).1 (ar_7_1 (show kd 49 = 7 by decide)).2 hb ?_
          refine E_iload dX7_set_83 rfl ?_
          exact E_iret dX7_set_85 rfl ⟨_, rfl, hP⟩
  · replace hP := hP.2 hc
    refine E_iload dX7_set_5 rfl ?_
    refine E_iconst (v := 1) dX7_set_7 (by decide) ?_
    refine E_bipush (v := 30) dX7_set_8 (by decide) ?_
    refine E_callS (As := [.int (p3), .int (1), .int (30)]) (rest := []) dX7_set_10 cl_RX7_58 tw_456 ⟨rfl, rfl, Nat.le_of_ble_eq_true rfl, Nat.le_of_ble_eq_true rfl⟩ rfl rfl (Nat.le_of_ble_eq_true rfl) (mt_X7_in _ _ _ _ _  hP) ?_
    intro r0 s0 hq0; obtain ⟨r10, h0, hs0, hP⟩ := hq0; subst h0; rw [hs0]
    show eX7_set 13 [.ref (49), .int (p0), .int (p1), .int (p2), .int (p3), un, un] [.int (bI r10)] σ _
    refine E_goto 38 dX7_set_13 (by decide) ?_
    refine E_istore (ls' := [.ref (49), .int (p0), .int (p1), .int (p2), .int (p3), .int (bI r10), un]) dX7_set_38 (by decide) rfl ?_
    refine E_aload_n dX7_set_40 rfl ?_
    refine E_iload_n dX7_set_41 rfl ?_
    refine E_iload_n dX7_set_42 rfl ?_
    refine E_callV (As := [.int (p0), .int (p1)]) (rest := []) dX7_set_43 cl_RX7_116 tw_527 (show kd 49 = 7 by decide) (by decide) rfl tw_528 ⟨rfl, rfl, Nat.le_of_ble_eq_true rfl, Nat.le_of_ble_eq_true rfl⟩ rfl rfl (Nat.le_of_ble_eq_true rfl) (mt_X7_isStone _ _ _ _  hP) ?_
    intro r0 s0 hq0; obtain ⟨r43, h0, hs0, hP⟩ := hq0; subst h0; rw [hs0]
    show eX7_set 46 [.ref (49), .int (p0), .int (p1), .int (p2), .int (p3), .int (bI r10), un] [.int (bI r43)] σ _
    refine E_ifz_eq 54 dX7_set_46 (by decide) (fun hc => ?_) (fun hc => ?_)
    · replace hP := hP.1 hc
      refine E_aload_n dX7_set_54 rfl ?_
      refine E_ldc (v := (-1000000001)) dX7_set_55 tw_452 ?_
      refine E_callV (As := [.int ((-1000000001))]) (rest := []) dX7_set_57 cl_RX7_105 tw_507 (show kd 49 = 7 by decide) (by decide) rfl tw_508 ⟨rfl, rfl, Nat.le_of_ble_eq_true rfl, Nat.le_of_ble_eq_true rfl⟩ rfl rfl (Nat.le_of_ble_eq_true rfl) (mt_X7_finds _ _ _  hP) ?_
      rintro _ t57 ⟨r57, rfl, hP⟩
      show eX7_set 60 [.ref (49), .int (p0), .int (p1), .int (p2), .int (p3), .int (bI r10), un] [.int (r57)] t57 _
      exact E_iret dX7_set_60 rfl ⟨_, rfl, hP⟩
    · replace hP := hP.2 hc
      refine E_iload dX7_set_49 rfl ?_
      refine E_ifz_ne 61 dX7_set_51 (by decide) (fun hc => ?_) (fun hc => ?_)
      · replace hP := hP.1 hc
        refine E_aload_n dX7_set_61 rfl ?_
        refine E_iload_n dX7_set_62 rfl ?_
        refine E_iload_n dX7_set_63 rfl ?_
        refine E_iload_n dX7_set_64 rfl ?_
        refine E_callV (As := [.int (p0), .int (p1), .int (p2)]) (rest := []) dX7_set_65 cl_RX7_74 tw_470 (show kd 49 = 7 by decide) (by decide) rfl tw_471 ⟨rfl, rfl, Nat.le_of_ble_eq_true rfl, Nat.le_of_ble_eq_true rfl⟩ rfl rfl (Nat.le_of_ble_eq_true rfl) (mt_X7_its _ _ _ _ _  hP) ?_
        intro r0 s0 hq0; obtain ⟨r65, h0, hs0, hP⟩ := hq0; subst h0; rw [hs0]
        show eX7_set 68 [.ref (49), .int (p0), .int (p1), .int (p2), .int (p3), .int (bI r10), un] [.int (r65)] σ _
        refine E_istore (ls' := [.ref (49), .int (p0), .int (p1), .int (p2), .int (p3), .int (bI r10), .int (r65)]) dX7_set_68 (by decide) rfl ?_
        refine E_aload_n dX7_set_70 rfl ?_
        refine E_getR (j := 0) dX7_set_71 (show kd 49 = 7 by decide) (by decide) rfl fd_RX7_7 (by decide) ?_
        refine E_iload_n dX7_set_74 rfl ?_
        refine E_iload_n dX7_set_75 rfl ?_
        refine E_iload_n dX7_set_76 rfl ?_
        refine E_callS (As := [.int (p0), .int (p1), .int (p2)]) (rest := [.ref (50)]) dX7_set_77 cl_RX7_70 tw_467 ⟨rfl, rfl, Nat.le_of_ble_eq_true rfl, Nat.le_of_ble_eq_true rfl⟩ rfl rfl (Nat.le_of_ble_eq_true rfl) (mt_X7_at _ _ _ _ _  hP) ?_
        intro r0 s0 hq0; obtain ⟨r77, h0, hs0, hP⟩ := hq0; subst h0; rw [hs0]
        show eX7_set 80 [.ref (49), .int (p0), .int (p1), .int (p2), .int (p3), .int (bI r10), .int (r65)] [.int (r77), .ref (50)] σ _
        refine E_iload dX7_set_80 rfl ?_
        obtain ⟨hb, hP⟩ := hP
        refine E_iast dX7_set_82 (ar_7_1 (show kd 49 = 7 by decide)).1 (ar_7_1 (show kd 49 = 7 by decide)).2 hb ?_
        refine E_iload dX7_set_83 rfl ?_
        exact E_iret dX7_set_85 rfl ⟨_, rfl, hP⟩
      · replace hP := hP.2 hc
        refine E_aload_n dX7_set_54 rfl ?_
        refine E_ldc (v := (-1000000001)) dX7_set_55 tw_452 ?_
        refine E_callV (As := [.int ((-1000000001))]) (rest := []) dX7_set_57 cl_RX7_105 tw_507 (show kd 49 = 7 by decide) (by decide) rfl tw_508 ⟨rfl, rfl, Nat.le_of_ble_eq_true rfl, Nat.le_of_ble_eq_true rfl⟩ rfl rfl (Nat.le_of_ble_eq_true rfl) (mt_X7_finds _ _ _  hP) ?_
        rintro _ t57 ⟨r57, rfl, hP⟩
        show eX7_set 60 [.ref (49), .int (p0), .int (p1), .int (p2), .int (p3), .int (bI r10), un] [.int (r57)] t57 _
        exact E_iret dX7_set_60 rfl ⟨_, rfl, hP⟩
theorem dX7_turn_0 : decode cX7_turn 0 = .ok (.aload_n 0, 1) := by decide +kernel
theorem dX7_turn_1 : decode cX7_turn 1 = .ok (.iload_n 1, 1) := by decide +kernel
theorem dX7_turn_2 : decode cX7_turn 2 = .ok (.iload_n 2, 1) := by decide +kernel
theorem dX7_turn_3 : decode cX7_turn 3 = .ok (.invokevirtual 116, 3) := by decide +kernel
theorem dX7_turn_6 : decode cX7_turn 6 = .ok (.ifCond .eq 10, 3) := by decide +kernel
theorem dX7_turn_9 : decode cX7_turn 9 = .ok (.iload_n 3, 1) := by decide +kernel
theorem dX7_turn_10 : decode cX7_turn 10 = .ok (.invokestatic 102, 3) := by decide +kernel
theorem dX7_turn_13 : decode cX7_turn 13 = .ok (.ifCond .ne 10, 3) := by decide +kernel
theorem dX7_turn_16 : decode cX7_turn 16 = .ok (.aload_n 0, 1) := by decide +kernel
theorem dX7_turn_17 : decode cX7_turn 17 = .ok (.ldc 57, 2) := by decide +kernel
theorem dX7_turn_19 : decode cX7_turn 19 = .ok (.invokevirtual 105, 3) := by decide +kernel
theorem dX7_turn_22 : decode cX7_turn 22 = .ok (.ireturn, 1) := by decide +kernel
theorem dX7_turn_23 : decode cX7_turn 23 = .ok (.aload_n 0, 1) := by decide +kernel
theorem dX7_turn_24 : decode cX7_turn 24 = .ok (.iload_n 1, 1) := by decide +kernel
theorem dX7_turn_25 : decode cX7_turn 25 = .ok (.iload_n 2, 1) := by decide +kernel
theorem dX7_turn_26 : decode cX7_turn 26 = .ok (.iconst 0, 1) := by decide +kernel
theorem dX7_turn_27 : decode cX7_turn 27 = .ok (.invokevirtual 74, 3) := by decide +kernel
theorem dX7_turn_30 : decode cX7_turn 30 = .ok (.istore 4, 2) := by decide +kernel
theorem dX7_turn_32 : decode cX7_turn 32 = .ok (.aload_n 0, 1) := by decide +kernel
theorem dX7_turn_33 : decode cX7_turn 33 = .ok (.getfield 7, 3) := by decide +kernel
theorem dX7_turn_36 : decode cX7_turn 36 = .ok (.iload_n 1, 1) := by decide +kernel
theorem dX7_turn_37 : decode cX7_turn 37 = .ok (.iload_n 2, 1) := by decide +kernel
theorem dX7_turn_38 : decode cX7_turn 38 = .ok (.iconst 0, 1) := by decide +kernel
theorem dX7_turn_39 : decode cX7_turn 39 = .ok (.invokestatic 70, 3) := by decide +kernel
theorem dX7_turn_42 : decode cX7_turn 42 = .ok (.iload_n 3, 1) := by decide +kernel
theorem dX7_turn_43 : decode cX7_turn 43 = .ok (.iastore, 1) := by decide +kernel
theorem dX7_turn_44 : decode cX7_turn 44 = .ok (.iload 4, 2) := by decide +kernel
theorem dX7_turn_46 : decode cX7_turn 46 = .ok (.ireturn, 1) := by decide +kernel
def rmX7_turn : Room := { frames := 3, cells := 0, slots := 0, locals := 64 }
abbrev eX7_turn := Ev cX7_turn 5 (some .int) RX7 rmX7_turn
set_option maxRecDepth 20000 in
theorem mt_X7_turn (p0 : Int32) (p1 : Int32) (p2 : Int32) (σ : St) (Q : Int32 → St → Prop)  (hP : P_X7_turn p0 p1 p2 σ Q) : Mt yX7_turn cX7_turn 5 (some .int) rmX7_turn [.ref (49), .int (p0), .int (p1), .int (p2)] σ (qI Q) := by
  refine Mt.of (k := 1) (ls := [.ref (49), .int (p0), .int (p1), .int (p2), un]) (by decide +kernel) rfl (Nat.le_of_ble_eq_true rfl) ?_
  show eX7_turn 0 [.ref (49), .int (p0), .int (p1), .int (p2), un] [] σ _
  unfold P_X7_turn at hP
  refine E_aload_n dX7_turn_0 rfl ?_
  refine E_iload_n dX7_turn_1 rfl ?_
  refine E_iload_n dX7_turn_2 rfl ?_
  refine E_callV (As := [.int (p0), .int (p1)]) (rest := []) dX7_turn_3 cl_RX7_116 tw_527 (show kd 49 = 7 by decide) (by decide) rfl tw_528 ⟨rfl, rfl, Nat.le_of_ble_eq_true rfl, Nat.le_of_ble_eq_true rfl⟩ rfl rfl (Nat.le_of_ble_eq_true rfl) (mt_X7_isStone _ _ _ _  hP) ?_
  intro r0 s0 hq0; obtain ⟨r3, h0, hs0, hP⟩ := hq0; subst h0; rw [hs0]
  show eX7_turn 6 [.ref (49), .int (p0), .int (p1), .int (p2), un] [.int (bI r3)] σ _
  refine E_ifz_eq 16 dX7_turn_6 (by decide) (fun hc => ?_) (fun hc => ?_)
  · replace hP := hP.1 hc
    refine E_aload_n dX7_turn_16 rfl ?_
    refine E_ldc (v := (-1000000001)) dX7_turn_17 tw_452 ?_
    refine E_callV (As := [.int ((-1000000001))]) (rest := []) dX7_turn_19 cl_RX7_105 tw_507 (show kd 49 = 7 by decide) (by decide) rfl tw_508 ⟨rfl, rfl, Nat.le_of_ble_eq_true rfl, Nat.le_of_ble_eq_true rfl⟩ rfl rfl (Nat.le_of_ble_eq_true rfl) (mt_X7_finds _ _ _  hP) ?_
    rintro _ t19 ⟨r19, rfl, hP⟩
    show eX7_turn 22 [.ref (49), .int (p0), .int (p1), .int (p2), un] [.int (r19)] t19 _
    exact E_iret dX7_turn_22 rfl ⟨_, rfl, hP⟩
  · replace hP := hP.2 hc
    refine E_iload_n dX7_turn_9 rfl ?_
    refine E_callS (As := [.int (p2)]) (rest := []) dX7_turn_10 cl_RX7_102 tw_516 ⟨rfl, rfl, Nat.le_of_ble_eq_true rfl, Nat.le_of_ble_eq_true rfl⟩ rfl rfl (Nat.le_of_ble_eq_true rfl) (mt_X7_isKind _ _ _  hP) ?_
    intro r0 s0 hq0; obtain ⟨r10, h0, hs0, hP⟩ := hq0; subst h0; rw [hs0]
    show eX7_turn 13 [.ref (49), .int (p0), .int (p1), .int (p2), un] [.int (bI r10)] σ _
    refine E_ifz_ne 23 dX7_turn_13 (by decide) (fun hc => ?_) (fun hc => ?_)
    · replace hP := hP.1 hc
      refine E_aload_n dX7_turn_23 rfl ?_
      refine E_iload_n dX7_turn_24 rfl ?_
      refine E_iload_n dX7_turn_25 rfl ?_
      refine E_iconst (v := 0) dX7_turn_26 (by decide) ?_
      refine E_callV (As := [.int (p0), .int (p1), .int (0)]) (rest := []) dX7_turn_27 cl_RX7_74 tw_470 (show kd 49 = 7 by decide) (by decide) rfl tw_471 ⟨rfl, rfl, Nat.le_of_ble_eq_true rfl, Nat.le_of_ble_eq_true rfl⟩ rfl rfl (Nat.le_of_ble_eq_true rfl) (mt_X7_its _ _ _ _ _  hP) ?_
      intro r0 s0 hq0; obtain ⟨r27, h0, hs0, hP⟩ := hq0; subst h0; rw [hs0]
      show eX7_turn 30 [.ref (49), .int (p0), .int (p1), .int (p2), un] [.int (r27)] σ _
      refine E_istore (ls' := [.ref (49), .int (p0), .int (p1), .int (p2), .int (r27)]) dX7_turn_30 (by decide) rfl ?_
      refine E_aload_n dX7_turn_32 rfl ?_
      refine E_getR (j := 0) dX7_turn_33 (show kd 49 = 7 by decide) (by decide) rfl fd_RX7_7 (by decide) ?_
      refine E_iload_n dX7_turn_36 rfl ?_
      refine E_iload_n dX7_turn_37 rfl ?_
      refine E_iconst (v := 0) dX7_turn_38 (by decide) ?_
      refine E_callS (As := [.int (p0), .int (p1), .int (0)]) (rest := [.ref (50)]) dX7_turn_39 cl_RX7_70 tw_467 ⟨rfl, rfl, Nat.le_of_ble_eq_true rfl, Nat.le_of_ble_eq_true rfl⟩ rfl rfl (Nat.le_of_ble_eq_true rfl) (mt_X7_at _ _ _ _ _  hP) ?_
      intro r0 s0 hq0; obtain ⟨r39, h0, hs0, hP⟩ := hq0; subst h0; rw [hs0]
      show eX7_turn 42 [.ref (49), .int (p0), .int (p1), .int (p2), .int (r27)] [.int (r39), .ref (50)] σ _
      refine E_iload_n dX7_turn_42 rfl ?_
      obtain ⟨hb, hP⟩ := hP
      refine E_iast dX7_turn_43 (ar_7_1 (show kd 49 = 7 by decide)).1 (ar_7_1 (show kd 49 = 7 by decide)).2 hb ?_
      refine E_iload dX7_turn_44 rfl ?_
      exact E_iret dX7_turn_46 rfl ⟨_, rfl, hP⟩
    · replace hP := hP.2 hc
      refine E_aload_n dX7_turn_16 rfl ?_
      refine E_ldc (v := (-1000000001)) dX7_turn_17 tw_452 ?_
      refine E_callV (As := [.int ((-1000000001))]) (rest := []) dX7_turn_19 cl_RX7_105 tw_507 (show kd 49 = 7 by decide) (by decide) rfl tw_508 ⟨rfl, rfl, Nat.le_of_ble_eq_true rfl, Nat.le_of_ble_eq_true rfl⟩ rfl rfl (Nat.le_of_ble_eq_true rfl) (mt_X7_finds _ _ _  hP) ?_
      rintro _ t19 ⟨r19, rfl, hP⟩
      show eX7_turn 22 [.ref (49), .int (p0), .int (p1), .int (p2), un] [.int (r19)] t19 _
      exact E_iret dX7_turn_22 rfl ⟨_, rfl, hP⟩
theorem dX7_isUnder_0 : decode cX7_isUnder 0 = .ok (.iload_n 1, 1) := by decide +kernel
theorem dX7_isUnder_1 : decode cX7_isUnder 1 = .ok (.ifCond .eq 28, 3) := by decide +kernel
theorem dX7_isUnder_4 : decode cX7_isUnder 4 = .ok (.iload_n 1, 1) := by decide +kernel
theorem dX7_isUnder_5 : decode cX7_isUnder 5 = .ok (.iload_n 0, 1) := by decide +kernel
theorem dX7_isUnder_6 : decode cX7_isUnder 6 = .ok (.if_icmp .eq 23, 3) := by decide +kernel
theorem dX7_isUnder_9 : decode cX7_isUnder 9 = .ok (.iload_n 1, 1) := by decide +kernel
theorem dX7_isUnder_10 : decode cX7_isUnder 10 = .ok (.iconst 1, 1) := by decide +kernel
theorem dX7_isUnder_11 : decode cX7_isUnder 11 = .ok (.if_icmp .ne 8, 3) := by decide +kernel
theorem dX7_isUnder_14 : decode cX7_isUnder 14 = .ok (.iload_n 0, 1) := by decide +kernel
theorem dX7_isUnder_15 : decode cX7_isUnder 15 = .ok (.iconst 4, 1) := by decide +kernel
theorem dX7_isUnder_16 : decode cX7_isUnder 16 = .ok (.if_icmp .eq 13, 3) := by decide +kernel
theorem dX7_isUnder_19 : decode cX7_isUnder 19 = .ok (.iload_n 1, 1) := by decide +kernel
theorem dX7_isUnder_20 : decode cX7_isUnder 20 = .ok (.iconst 2, 1) := by decide +kernel
theorem dX7_isUnder_21 : decode cX7_isUnder 21 = .ok (.if_icmp .ne 12, 3) := by decide +kernel
theorem dX7_isUnder_24 : decode cX7_isUnder 24 = .ok (.iload_n 0, 1) := by decide +kernel
theorem dX7_isUnder_25 : decode cX7_isUnder 25 = .ok (.iconst 5, 1) := by decide +kernel
theorem dX7_isUnder_26 : decode cX7_isUnder 26 = .ok (.if_icmp .ne 7, 3) := by decide +kernel
theorem dX7_isUnder_29 : decode cX7_isUnder 29 = .ok (.iconst 1, 1) := by decide +kernel
theorem dX7_isUnder_30 : decode cX7_isUnder 30 = .ok (.goto 4, 3) := by decide +kernel
theorem dX7_isUnder_33 : decode cX7_isUnder 33 = .ok (.iconst 0, 1) := by decide +kernel
theorem dX7_isUnder_34 : decode cX7_isUnder 34 = .ok (.ireturn, 1) := by decide +kernel
def rmX7_isUnder : Room := { frames := 0, cells := 0, slots := 0, locals := 0 }
abbrev eX7_isUnder := Ev cX7_isUnder 2 (some .boolean) RX7 rmX7_isUnder
set_option maxRecDepth 20000 in
theorem mt_X7_isUnder (p0 : Int32) (p1 : Int32) (σ : St) (Q : Bool → Prop)  (hP : P_X7_isUnder p0 p1 σ Q) : Mt yX7_isUnder cX7_isUnder 2 (some .boolean) rmX7_isUnder [.int (p0), .int (p1)] σ (qB fun x s => s = σ ∧ Q x) := by
  refine Mt.of (k := 0) (ls := [.int (p0), .int (p1)]) (by decide +kernel) rfl (Nat.le_of_ble_eq_true rfl) ?_
  show eX7_isUnder 0 [.int (p0), .int (p1)] [] σ _
  unfold P_X7_isUnder at hP
  refine E_iload_n dX7_isUnder_0 rfl ?_
  refine E_if_eq 29 dX7_isUnder_1 (by decide) (fun hc => ?_) (fun hc => ?_)
  · replace hP := hP.1 hc
    refine E_iconst (v := 1) dX7_isUnder_29 (by decide) ?_
    refine E_goto 34 dX7_isUnder_30 (by decide) ?_
    exact E_nret dX7_isUnder_34 rfl (nar_b true) ⟨true, rfl, rfl, hP⟩
  · replace hP := hP.2 hc
    refine E_iload_n dX7_isUnder_4 rfl ?_
    refine E_iload_n dX7_isUnder_5 rfl ?_
    refine E_icmp_eq 29 dX7_isUnder_6 (by decide) (fun hc => ?_) (fun hc => ?_)
    · replace hP := hP.1 hc
      refine E_iconst (v := 1) dX7_isUnder_29 (by decide) ?_
      refine E_goto 34 dX7_isUnder_30 (by decide) ?_
      exact E_nret dX7_isUnder_34 rfl (nar_b true) ⟨true, rfl, rfl, hP⟩
    · replace hP := hP.2 hc
      refine E_iload_n dX7_isUnder_9 rfl ?_
      refine E_iconst (v := 1) dX7_isUnder_10 (by decide) ?_
      refine E_icmp_ne 19 dX7_isUnder_11 (by decide) (fun hc => ?_) (fun hc => ?_)
      · replace hP := hP.1 hc
        refine E_iload_n dX7_isUnder_19 rfl ?_
        refine E_iconst (v := 2) dX7_isUnder_20 (by decide) ?_
        refine E_icmp_ne 33 dX7_isUnder_21 (by decide) (fun hc => ?_) (fun hc => ?_)
        · replace hP := hP.1 hc
          refine E_iconst (v := 0) dX7_isUnder_33 (by decide) ?_
          exact E_nret dX7_isUnder_34 rfl (nar_b false) ⟨false, rfl, rfl, hP⟩
        · replace hP := hP.2 hc
          refine E_iload_n dX7_isUnder_24 rfl ?_
          refine E_iconst (v := 5) dX7_isUnder_25 (by decide) ?_
          refine E_icmp_ne 33 dX7_isUnder_26 (by decide) (fun hc => ?_) (fun hc => ?_)
          · replace hP := hP.1 hc
            refine E_iconst (v := 0) dX7_isUnder_33 (by decide) ?_
            exact E_nret dX7_isUnder_34 rfl (nar_b false) ⟨false, rfl, rfl, hP⟩
          · replace hP := hP.2 hc
            refine E_iconst (v := 1) dX7_isUnder_29 (by decide) ?_
            refine E_goto 34 dX7_isUnder_30 (by decide) ?_
            exact E_nret dX7_isUnder_34 rfl (nar_b true) ⟨true, rfl, rfl, hP⟩
      · replace hP := hP.2 hc
        refine E_iload_n dX7_isUnder_14 rfl ?_
        refine E_iconst (v := 4) dX7_isUnder_15 (by decide) ?_
        refine E_icmp_eq 29 dX7_isUnder_16 (by decide) (fun hc => ?_) (fun hc => ?_)
        · replace hP := hP.1 hc
          refine E_iconst (v := 1) dX7_isUnder_29 (by decide) ?_
          refine E_goto 34 dX7_isUnder_30 (by decide) ?_
          exact E_nret dX7_isUnder_34 rfl (nar_b true) ⟨true, rfl, rfl, hP⟩
        · replace hP := hP.2 hc
          refine E_iload_n dX7_isUnder_19 rfl ?_
          refine E_iconst (v := 2) dX7_isUnder_20 (by decide) ?_
          refine E_icmp_ne 33 dX7_isUnder_21 (by decide) (fun hc => ?_) (fun hc => ?_)
          · replace hP := hP.1 hc
            refine E_iconst (v := 0) dX7_isUnder_33 (by decide) ?_
            exact E_nret dX7_isUnder_34 rfl (nar_b false) ⟨false, rfl, rfl, hP⟩
          · replace hP := hP.2 hc
            refine E_iload_n dX7_isUnder_24 rfl ?_
            refine E_iconst (v := 5) dX7_isUnder_25 (by decide) ?_
            refine E_icmp_ne 33 dX7_isUnder_26 (by decide) (fun hc => ?_) (fun hc => ?_)
            · replace hP := hP.1 hc
              refine E_iconst (v := 0) dX7_isUnder_33 (by decide) ?_
              exact E_nret dX7_isUnder_34 rfl (nar_b false) ⟨false, rfl, rfl, hP⟩
            · replace hP := hP.2 hc
              refine E_iconst (v := 1) dX7_isUnder_29 (by decide) ?_
              refine E_goto 34 dX7_isUnder_30 (by decide) ?_
              exact E_nret dX7_isUnder_34 rfl (nar_b true) ⟨true, rfl, rfl, hP⟩
theorem dX7_as_0 : decode cX7_as 0 = .ok (.aload_n 0, 1) := by decide +kernel
theorem dX7_as_1 : decode cX7_as 1 = .ok (.iload_n 1, 1) := by decide +kernel
theorem dX7_as_2 : decode cX7_as 2 = .ok (.iload_n 2, 1) := by decide +kernel
theorem dX7_as_3 : decode cX7_as 3 = .ok (.invokevirtual 116, 3) := by decide +kernel
theorem dX7_as_6 : decode cX7_as 6 = .ok (.ifCond .eq 10, 3) := by decide +kernel
theorem dX7_as_9 : decode cX7_as 9 = .ok (.iload_n 3, 1) := by decide +kernel
theorem dX7_as_10 : decode cX7_as 10 = .ok (.invokestatic 102, 3) := by decide +kernel
theorem dX7_as_13 : decode cX7_as 13 = .ok (.ifCond .ne 10, 3) := by decide +kernel
theorem dX7_as_16 : decode cX7_as 16 = .ok (.aload_n 0, 1) := by decide +kernel
theorem dX7_as_17 : decode cX7_as 17 = .ok (.ldc 57, 2) := by decide +kernel
theorem dX7_as_19 : decode cX7_as 19 = .ok (.invokevirtual 105, 3) := by decide +kernel
theorem dX7_as_22 : decode cX7_as 22 = .ok (.ireturn, 1) := by decide +kernel
theorem dX7_as_23 : decode cX7_as 23 = .ok (.aload_n 0, 1) := by decide +kernel
theorem dX7_as_24 : decode cX7_as 24 = .ok (.iload_n 1, 1) := by decide +kernel
theorem dX7_as_25 : decode cX7_as 25 = .ok (.iload_n 2, 1) := by decide +kernel
theorem dX7_as_26 : decode cX7_as 26 = .ok (.iconst 0, 1) := by decide +kernel
theorem dX7_as_27 : decode cX7_as 27 = .ok (.invokevirtual 74, 3) := by decide +kernel
theorem dX7_as_30 : decode cX7_as 30 = .ok (.iload_n 3, 1) := by decide +kernel
theorem dX7_as_31 : decode cX7_as 31 = .ok (.invokestatic 124, 3) := by decide +kernel
theorem dX7_as_34 : decode cX7_as 34 = .ok (.ifCond .eq 13, 3) := by decide +kernel
theorem dX7_as_37 : decode cX7_as 37 = .ok (.aload_n 0, 1) := by decide +kernel
theorem dX7_as_38 : decode cX7_as 38 = .ok (.iload_n 1, 1) := by decide +kernel
theorem dX7_as_39 : decode cX7_as 39 = .ok (.iload_n 2, 1) := by decide +kernel
theorem dX7_as_40 : decode cX7_as 40 = .ok (.iconst 1, 1) := by decide +kernel
theorem dX7_as_41 : decode cX7_as 41 = .ok (.invokevirtual 74, 3) := by decide +kernel
theorem dX7_as_44 : decode cX7_as 44 = .ok (.goto 9, 3) := by decide +kernel
theorem dX7_as_47 : decode cX7_as 47 = .ok (.aload_n 0, 1) := by decide +kernel
theorem dX7_as_48 : decode cX7_as 48 = .ok (.ldc 127, 2) := by decide +kernel
theorem dX7_as_50 : decode cX7_as 50 = .ok (.invokevirtual 105, 3) := by decide +kernel
theorem dX7_as_53 : decode cX7_as 53 = .ok (.ireturn, 1) := by decide +kernel
def rmX7_as : Room := { frames := 3, cells := 0, slots := 0, locals := 64 }
abbrev eX7_as := Ev cX7_as 4 (some .int) RX7 rmX7_as
set_option maxRecDepth 20000 in
theorem mt_X7_as (p0 : Int32) (p1 : Int32) (p2 : Int32) (σ : St) (Q : Int32 → St → Prop)  (hP : P_X7_as p0 p1 p2 σ Q) : Mt yX7_as cX7_as 4 (some .int) rmX7_as [.ref (49), .int (p0), .int (p1), .int (p2)] σ (qI Q) := by
  refine Mt.of (k := 0) (ls := [.ref (49), .int (p0), .int (p1), .int (p2)]) (by decide +kernel) rfl (Nat.le_of_ble_eq_true rfl) ?_
  show eX7_as 0 [.ref (49), .int (p0), .int (p1), .int (p2)] [] σ _
  unfold P_X7_as at hP
  refine E_aload_n dX7_as_0 rfl ?_
  refine E_iload_n dX7_as_1 rfl ?_
  refine E_iload_n dX7_as_2 rfl ?_
  refine E_callV (As := [.int (p0), .int (p1)]) (rest := []) dX7_as_3 cl_RX7_116 tw_527 (show kd 49 = 7 by decide) (by decide) rfl tw_528 ⟨rfl, rfl, Nat.le_of_ble_eq_true rfl, Nat.le_of_ble_eq_true rfl⟩ rfl rfl (Nat.le_of_ble_eq_true rfl) (mt_X7_isStone _ _ _ _  hP) ?_
  intro r0 s0 hq0; obtain ⟨r3, h0, hs0, hP⟩ := hq0; subst h0; rw [hs0]
  show eX7_as 6 [.ref (49), .int (p0), .int (p1), .int (p2)] [.int (bI r3)] σ _
  refine E_ifz_eq 16 dX7_as_6 (by decide) (fun hc => ?_) (fun hc => ?_)
  · replace hP := hP.1 hc
    refine E_aload_n dX7_as_16 rfl ?_
    refine E_ldc (v := (-1000000001)) dX7_as_17 tw_452 ?_
    refine E_callV (As := [.int ((-1000000001))]) (rest := []) dX7_as_19 cl_RX7_105 tw_507 (show kd 49 = 7 by decide) (by decide) rfl tw_508 ⟨rfl, rfl, Nat.le_of_ble_eq_true rfl, Nat.le_of_ble_eq_true rfl⟩ rfl rfl (Nat.le_of_ble_eq_true rfl) (mt_X7_finds _ _ _  hP) ?_
    rintro _ t19 ⟨r19, rfl, hP⟩
    show eX7_as 22 [.ref (49), .int (p0), .int (p1), .int (p2)] [.int (r19)] t19 _
    exact E_iret dX7_as_22 rfl ⟨_, rfl, hP⟩
  · replace hP := hP.2 hc
    refine E_iload_n dX7_as_9 rfl ?_
    refine E_callS (As := [.int (p2)]) (rest := []) dX7_as_10 cl_RX7_102 tw_516 ⟨rfl, rfl, Nat.le_of_ble_eq_true rfl, Nat.le_of_ble_eq_true rfl⟩ rfl rfl (Nat.le_of_ble_eq_true rfl) (mt_X7_isKind _ _ _  hP) ?_
    intro r0 s0 hq0; obtain ⟨r10, h0, hs0, hP⟩ := hq0; subst h0; rw [hs0]
    show eX7_as 13 [.ref (49), .int (p0), .int (p1), .int (p2)] [.int (bI r10)] σ _
    refine E_ifz_ne 23 dX7_as_13 (by decide) (fun hc => ?_) (fun hc => ?_)
    · replace hP := hP.1 hc
      refine E_aload_n dX7_as_23 rfl ?_
      refine E_iload_n dX7_as_24 rfl ?_
      refine E_iload_n dX7_as_25 rfl ?_
      refine E_iconst (v := 0) dX7_as_26 (by decide) ?_
      refine E_callV (As := [.int (p0), .int (p1), .int (0)]) (rest := []) dX7_as_27 cl_RX7_74 tw_470 (show kd 49 = 7 by decide) (by decide) rfl tw_471 ⟨rfl, rfl, Nat.le_of_ble_eq_true rfl, Nat.le_of_ble_eq_true rfl⟩ rfl rfl (Nat.le_of_ble_eq_true rfl) (mt_X7_its _ _ _ _ _  hP) ?_
      intro r0 s0 hq0; obtain ⟨r27, h0, hs0, hP⟩ := hq0; subst h0; rw [hs0]
      show eX7_as 30 [.ref (49), .int (p0), .int (p1), .int (p2)] [.int (r27)] σ _
      refine E_iload_n dX7_as_30 rfl ?_
      refine E_callS (As := [.int (r27), .int (p2)]) (rest := []) dX7_as_31 cl_RX7_124 tw_532 ⟨rfl, rfl, Nat.le_of_ble_eq_true rfl, Nat.le_of_ble_eq_true rfl⟩ rfl rfl (Nat.le_of_ble_eq_true rfl) (mt_X7_isUnder _ _ _ _  hP) ?_
      intro r0 s0 hq0; obtain ⟨r31, h0, hs0, hP⟩ := hq0; subst h0; rw [hs0]
      show eX7_as 34 [.ref (49), .int (p0), .int (p1), .int (p2)] [.int (bI r31)] σ _
      refine E_ifz_eq 47 dX7_as_34 (by decide) (fun hc => ?_) (fun hc => ?_)
      · replace hP := hP.1 hc
        refine E_aload_n dX7_as_47 rfl ?_
        refine E_ldc (v := (-1000000003)) dX7_as_48 tw_529 ?_
        refine E_callV (As := [.int ((-1000000003))]) (rest := []) dX7_as_50 cl_RX7_105 tw_507 (show kd 49 = 7 by decide) (by decide) rfl tw_508 ⟨rfl, rfl, Nat.le_of_ble_eq_true rfl, Nat.le_of_ble_eq_true rfl⟩ rfl rfl (Nat.le_of_ble_eq_true rfl) (mt_X7_finds _ _ _  hP) ?_
        rintro _ t50 ⟨r50, rfl, hP⟩
        show eX7_as 53 [.ref (49), .int (p0), .int (p1), .int (p2)] [.int (r50)] t50 _
        exact E_iret dX7_as_53 rfl ⟨_, rfl, hP⟩
      · replace hP := hP.2 hc
        refine E_aload_n dX7_as_37 rfl ?_
        refine E_iload_n dX7_as_38 rfl ?_
        refine E_iload_n dX7_as_39 rfl ?_
        refine E_iconst (v := 1) dX7_as_40 (by decide) ?_
        refine E_callV (As := [.int (p0), .int (p1), .int (1)]) (rest := []) dX7_as_41 cl_RX7_74 tw_470 (show kd 49 = 7 by decide) (by decide) rfl tw_471 ⟨rfl, rfl, Nat.le_of_ble_eq_true rfl, Nat.le_of_ble_eq_true rfl⟩ rfl rfl (Nat.le_of_ble_eq_true rfl) (mt_X7_its _ _ _ _ _  hP) ?_
        intro r0 s0 hq0; obtain ⟨r41, h0, hs0, hP⟩ := hq0; subst h0; rw [hs0]
        show eX7_as 44 [.ref (49), .int (p0), .int (p1), .int (p2)] [.int (r41)] σ _
        refine E_goto 53 dX7_as_44 (by decide) ?_
        exact E_iret dX7_as_53 rfl ⟨_, rfl, hP⟩
    · replace hP := hP.2 hc
      refine E_aload_n dX7_as_16 rfl ?_
      refine E_ldc (v := (-1000000001)) dX7_as_17 tw_452 ?_
      refine E_callV (As := [.int ((-1000000001))]) (rest := []) dX7_as_19 cl_RX7_105 tw_507 (show kd 49 = 7 by decide) (by decide) rfl tw_508 ⟨rfl, rfl, Nat.le_of_ble_eq_true rfl, Nat.le_of_ble_eq_true rfl⟩ rfl rfl (Nat.le_of_ble_eq_true rfl) (mt_X7_finds _ _ _  hP) ?_
      rintro _ t19 ⟨r19, rfl, hP⟩
      show eX7_as 22 [.ref (49), .int (p0), .int (p1), .int (p2)] [.int (r19)] t19 _
      exact E_iret dX7_as_22 rfl ⟨_, rfl, hP⟩
theorem dX7_wedge_0 : decode cX7_wedge 0 = .ok (.iload_n 1, 1) := by decide +kernel
theorem dX7_wedge_1 : decode cX7_wedge 1 = .ok (.invokestatic 62, 3) := by decide +kernel
theorem dX7_wedge_4 : decode cX7_wedge 4 = .ok (.ifCond .eq 13, 3) := by decide +kernel
theorem dX7_wedge_7 : decode cX7_wedge 7 = .ok (.iload_n 2, 1) := by decide +kernel
theorem dX7_wedge_8 : decode cX7_wedge 8 = .ok (.iconst 0, 1) := by decide +kernel
theorem dX7_wedge_9 : decode cX7_wedge 9 = .ok (.bipush 20, 2) := by decide +kernel
theorem dX7_wedge_11 : decode cX7_wedge 11 = .ok (.invokestatic 58, 3) := by decide +kernel
theorem dX7_wedge_14 : decode cX7_wedge 14 = .ok (.ifCond .ne 10, 3) := by decide +kernel
theorem dX7_wedge_17 : decode cX7_wedge 17 = .ok (.aload_n 0, 1) := by decide +kernel
theorem dX7_wedge_18 : decode cX7_wedge 18 = .ok (.ldc 57, 2) := by decide +kernel
theorem dX7_wedge_20 : decode cX7_wedge 20 = .ok (.invokevirtual 105, 3) := by decide +kernel
theorem dX7_wedge_23 : decode cX7_wedge 23 = .ok (.ireturn, 1) := by decide +kernel
theorem dX7_wedge_24 : decode cX7_wedge 24 = .ok (.aload_n 0, 1) := by decide +kernel
theorem dX7_wedge_25 : decode cX7_wedge 25 = .ok (.getfield 7, 3) := by decide +kernel
theorem dX7_wedge_28 : decode cX7_wedge 28 = .ok (.bipush 23, 2) := by decide +kernel
theorem dX7_wedge_30 : decode cX7_wedge 30 = .ok (.iload_n 1, 1) := by decide +kernel
theorem dX7_wedge_31 : decode cX7_wedge 31 = .ok (.imul, 1) := by decide +kernel
theorem dX7_wedge_32 : decode cX7_wedge 32 = .ok (.iconst 1, 1) := by decide +kernel
theorem dX7_wedge_33 : decode cX7_wedge 33 = .ok (.iadd, 1) := by decide +kernel
theorem dX7_wedge_34 : decode cX7_wedge 34 = .ok (.iaload, 1) := by decide +kernel
theorem dX7_wedge_35 : decode cX7_wedge 35 = .ok (.istore_n 3, 1) := by decide +kernel
theorem dX7_wedge_36 : decode cX7_wedge 36 = .ok (.aload_n 0, 1) := by decide +kernel
theorem dX7_wedge_37 : decode cX7_wedge 37 = .ok (.getfield 7, 3) := by decide +kernel
theorem dX7_wedge_40 : decode cX7_wedge 40 = .ok (.bipush 23, 2) := by decide +kernel
theorem dX7_wedge_42 : decode cX7_wedge 42 = .ok (.iload_n 1, 1) := by decide +kernel
theorem dX7_wedge_43 : decode cX7_wedge 43 = .ok (.imul, 1) := by decide +kernel
theorem dX7_wedge_44 : decode cX7_wedge 44 = .ok (.iconst 1, 1) := by decide +kernel
theorem dX7_wedge_45 : decode cX7_wedge 45 = .ok (.iadd, 1) := by decide +kernel
theorem dX7_wedge_46 : decode cX7_wedge 46 = .ok (.iload_n 2, 1) := by decide +kernel
theorem dX7_wedge_47 : decode cX7_wedge 47 = .ok (.iastore, 1) := by decide +kernel
theorem dX7_wedge_48 : decode cX7_wedge 48 = .ok (.iload_n 3, 1) := by decide +kernel
theorem dX7_wedge_49 : decode cX7_wedge 49 = .ok (.ireturn, 1) := by decide +kernel
def rmX7_wedge : Room := { frames := 2, cells := 0, slots := 0, locals := 42 }
abbrev eX7_wedge := Ev cX7_wedge 4 (some .int) RX7 rmX7_wedge
set_option maxRecDepth 20000 in
theorem mt_X7_wedge (p0 : Int32) (p1 : Int32) (σ : St) (Q : Int32 → St → Prop)  (hP : P_X7_wedge p0 p1 σ Q) : Mt yX7_wedge cX7_wedge 4 (some .int) rmX7_wedge [.ref (49), .int (p0), .int (p1)] σ (qI Q) := by
  refine Mt.of (k := 1) (ls := [.ref (49), .int (p0), .int (p1), un]) (by decide +kernel) rfl (Nat.le_of_ble_eq_true rfl) ?_
  show eX7_wedge 0 [.ref (49), .int (p0), .int (p1), un] [] σ _
  unfold P_X7_wedge at hP
  refine E_iload_n dX7_wedge_0 rfl ?_
  refine E_callS (As := [.int (p0)]) (rest := []) dX7_wedge_1 cl_RX7_62 tw_464 ⟨rfl, rfl, Nat.le_of_ble_eq_true rfl, Nat.le_of_ble_eq_true rfl⟩ rfl rfl (Nat.le_of_ble_eq_true rfl) (mt_X7_isWall _ _ _  hP) ?_
  intro r0 s0 hq0; obtain ⟨r1, h0, hs0, hP⟩ := hq0; subst h0; rw [hs0]
  show eX7_wedge 4 [.ref (49), .int (p0), .int (p1), un] [.int (bI r1)] σ _
  refine E_ifz_eq 17 dX7_wedge_4 (by decide) (fun hc => ?_) (fun hc => ?_)
  · replace hP := hP.1 hc
    refine E_aload_n dX7_wedge_17 rfl ?_
    refine E_ldc (v := (-1000000001)) dX7_wedge_18 tw_452 ?_
    refine E_callV (As := [.int ((-1000000001))]) (rest := []) dX7_wedge_20 cl_RX7_105 tw_507 (show kd 49 = 7 by decide) (by decide) rfl tw_508 ⟨rfl, rfl, Nat.le_of_ble_eq_true rfl, Nat.le_of_ble_eq_true rfl⟩ rfl rfl (Nat.le_of_ble_eq_true rfl) (mt_X7_finds _ _ _  hP) ?_
    rintro _ t20 ⟨r20, rfl, hP⟩
    show eX7_wedge 23 [.ref (49), .int (p0), .int (p1), un] [.int (r20)] t20 _
    exact E_iret dX7_wedge_23 rfl ⟨_, rfl, hP⟩
  · replace hP := hP.2 hc
    refine E_iload_n dX7_wedge_7 rfl ?_
    refine E_iconst (v := 0) dX7_wedge_8 (by decide) ?_
    refine E_bipush (v := 20) dX7_wedge_9 (by decide) ?_
    refine E_callS (As := [.int (p1), .int (0), .int (20)]) (rest := []) dX7_wedge_11 cl_RX7_58 tw_456 ⟨rfl, rfl, Nat.le_of_ble_eq_true rfl, Nat.le_of_ble_eq_true rfl⟩ rfl rfl (Nat.le_of_ble_eq_true rfl) (mt_X7_in _ _ _ _ _  hP) ?_
    intro r0 s0 hq0; obtain ⟨r11, h0, hs0, hP⟩ := hq0; subst h0; rw [hs0]
    show eX7_wedge 14 [.ref (49), .int (p0), .int (p1), un] [.int (bI r11)] σ _
    refine E_ifz_ne 24 dX7_wedge_14 (by decide) (fun hc => ?_) (fun hc => ?_)
    · replace hP := hP.1 hc
      refine E_aload_n dX7_wedge_24 rfl ?_
      refine E_getR (j := 0) dX7_wedge_25 (show kd 49 = 7 by decide) (by decide) rfl fd_RX7_7 (by decide) ?_
      refine E_bipush (v := 23) dX7_wedge_28 (by decide) ?_
      refine E_iload_n dX7_wedge_30 rfl ?_
      refine E_imul dX7_wedge_31 ?_
      refine E_iconst (v := 1) dX7_wedge_32 (by decide) ?_
      refine E_iadd dX7_wedge_33 ?_
      obtain ⟨hb, hP⟩ := hP
      refine E_iald dX7_wedge_34 (ar_7_1 (show kd 49 = 7 by decide)).1 (ar_7_1 (show kd 49 = 7 by decide)).2 hb ?_
      refine E_istore_n (ls' := [.ref (49), .int (p0), .int (p1), .int (gI σ 50 ((23 * p0) + 1).toNatClampNeg)]) dX7_wedge_35 (by decide) rfl ?_
      refine E_aload_n dX7_wedge_36 rfl ?_
      refine E_getR (j := 0) dX7_wedge_37 (show kd 49 = 7 by decide) (by decide) rfl fd_RX7_7 (by decide) ?_
      refine E_bipush (v := 23) dX7_wedge_40 (by decide) ?_
      refine E_iload_n dX7_wedge_42 rfl ?_
      refine E_imul dX7_wedge_43 ?_
      refine E_iconst (v := 1) dX7_wedge_44 (by decide) ?_
      refine E_iadd dX7_wedge_45 ?_
      refine E_iload_n dX7_wedge_46 rfl ?_
      obtain ⟨hb, hP⟩ := hP
      refine E_iast dX7_wedge_47 (ar_7_1 (show kd 49 = 7 by decide)).1 (ar_7_1 (show kd 49 = 7 by decide)).2 hb ?_
      refine E_iload_n dX7_wedge_48 rfl ?_
      exact E_iret dX7_wedge_49 rfl ⟨_, rfl, hP⟩
    · replace hP := hP.2 hc
      refine E_aload_n dX7_wedge_17 rfl ?_
      refine E_ldc (v := (-1000000001)) dX7_wedge_18 tw_452 ?_
      refine E_callV (As := [.int ((-1000000001))]) (rest := []) dX7_wedge_20 cl_RX7_105 tw_507 (show kd 49 = 7 by decide) (by decide) rfl tw_508 ⟨rfl, rfl, Nat.le_of_ble_eq_true rfl, Nat.le_of_ble_eq_true rfl⟩ rfl rfl (Nat.le_of_ble_eq_true rfl) (mt_X7_finds _ _ _  hP) ?_
      rintro _ t20 ⟨r20, rfl, hP⟩
      show eX7_wedge 23 [.ref (49), .int (p0), .int (p1), un] [.int (r20)] t20 _
      exact E_iret dX7_wedge_23 rfl ⟨_, rfl, hP⟩
theorem dX7_slack_0 : decode cX7_slack 0 = .ok (.iload_n 1, 1) := by decide +kernel
theorem dX7_slack_1 : decode cX7_slack 1 = .ok (.iconst 0, 1) := by decide +kernel
theorem dX7_slack_2 : decode cX7_slack 2 = .ok (.bipush 99, 2) := by decide +kernel
theorem dX7_slack_4 : decode cX7_slack 4 = .ok (.invokestatic 58, 3) := by decide +kernel
theorem dX7_slack_7 : decode cX7_slack 7 = .ok (.ifCond .ne 10, 3) := by decide +kernel
theorem dX7_slack_10 : decode cX7_slack 10 = .ok (.aload_n 0, 1) := by decide +kernel
theorem dX7_slack_11 : decode cX7_slack 11 = .ok (.ldc 57, 2) := by decide +kernel
theorem dX7_slack_13 : decode cX7_slack 13 = .ok (.invokevirtual 105, 3) := by decide +kernel
theorem dX7_slack_16 : decode cX7_slack 16 = .ok (.ireturn, 1) := by decide +kernel
theorem dX7_slack_17 : decode cX7_slack 17 = .ok (.aload_n 0, 1) := by decide +kernel
theorem dX7_slack_18 : decode cX7_slack 18 = .ok (.getfield 7, 3) := by decide +kernel
theorem dX7_slack_21 : decode cX7_slack 21 = .ok (.bipush 93, 2) := by decide +kernel
theorem dX7_slack_23 : decode cX7_slack 23 = .ok (.iaload, 1) := by decide +kernel
theorem dX7_slack_24 : decode cX7_slack 24 = .ok (.istore_n 2, 1) := by decide +kernel
theorem dX7_slack_25 : decode cX7_slack 25 = .ok (.aload_n 0, 1) := by decide +kernel
theorem dX7_slack_26 : decode cX7_slack 26 = .ok (.getfield 7, 3) := by decide +kernel
theorem dX7_slack_29 : decode cX7_slack 29 = .ok (.bipush 93, 2) := by decide +kernel
theorem dX7_slack_31 : decode cX7_slack 31 = .ok (.iload_n 1, 1) := by decide +kernel
theorem dX7_slack_32 : decode cX7_slack 32 = .ok (.iastore, 1) := by decide +kernel
theorem dX7_slack_33 : decode cX7_slack 33 = .ok (.iload_n 2, 1) := by decide +kernel
theorem dX7_slack_34 : decode cX7_slack 34 = .ok (.ireturn, 1) := by decide +kernel
def rmX7_slack : Room := { frames := 1, cells := 0, slots := 0, locals := 22 }
abbrev eX7_slack := Ev cX7_slack 3 (some .int) RX7 rmX7_slack
set_option maxRecDepth 20000 in
theorem mt_X7_slack (p0 : Int32) (σ : St) (Q : Int32 → St → Prop)  (hP : P_X7_slack p0 σ Q) : Mt yX7_slack cX7_slack 3 (some .int) rmX7_slack [.ref (49), .int (p0)] σ (qI Q) := by
  refine Mt.of (k := 1) (ls := [.ref (49), .int (p0), un]) (by decide +kernel) rfl (Nat.le_of_ble_eq_true rfl) ?_
  show eX7_slack 0 [.ref (49), .int (p0), un] [] σ _
  unfold P_X7_slack at hP
  refine E_iload_n dX7_slack_0 rfl ?_
  refine E_iconst (v := 0) dX7_slack_1 (by decide) ?_
  refine E_bipush (v := 99) dX7_slack_2 (by decide) ?_
  refine E_callS (As := [.int (p0), .int (0), .int (99)]) (rest := []) dX7_slack_4 cl_RX7_58 tw_456 ⟨rfl, rfl, Nat.le_of_ble_eq_true rfl, Nat.le_of_ble_eq_true rfl⟩ rfl rfl (Nat.le_of_ble_eq_true rfl) (mt_X7_in _ _ _ _ _  hP) ?_
  intro r0 s0 hq0; obtain ⟨r4, h0, hs0, hP⟩ := hq0; subst h0; rw [hs0]
  show eX7_slack 7 [.ref (49), .int (p0), un] [.int (bI r4)] σ _
  refine E_ifz_ne 17 dX7_slack_7 (by decide) (fun hc => ?_) (fun hc => ?_)
  · replace hP := hP.1 hc
    refine E_aload_n dX7_slack_17 rfl ?_
    refine E_getR (j := 0) dX7_slack_18 (show kd 49 = 7 by decide) (by decide) rfl fd_RX7_7 (by decide) ?_
    refine E_bipush (v := 93) dX7_slack_21 (by decide) ?_
    refine E_iald dX7_slack_23 (ar_7_1 (show kd 49 = 7 by decide)).1 (ar_7_1 (show kd 49 = 7 by decide)).2 (vp_c (by decide)) ?_
    refine E_istore_n (ls' := [.ref (49), .int (p0), .int (gI σ 50 93)]) dX7_slack_24 (by decide) rfl ?_
    refine E_aload_n dX7_slack_25 rfl ?_
    refine E_getR (j := 0) dX7_slack_26 (show kd 49 = 7 by decide) (by decide) rfl fd_RX7_7 (by decide) ?_
    refine E_bipush (v := 93) dX7_slack_29 (by decide) ?_
    refine E_iload_n dX7_slack_31 rfl ?_
    refine E_iast dX7_slack_32 (ar_7_1 (show kd 49 = 7 by decide)).1 (ar_7_1 (show kd 49 = 7 by decide)).2 (vp_c (by decide)) ?_
    refine E_iload_n dX7_slack_33 rfl ?_
    exact E_iret dX7_slack_34 rfl ⟨_, rfl, hP⟩
  · replace hP := hP.2 hc
    refine E_aload_n dX7_slack_10 rfl ?_
    refine E_ldc (v := (-1000000001)) dX7_slack_11 tw_452 ?_
    refine E_callV (As := [.int ((-1000000001))]) (rest := []) dX7_slack_13 cl_RX7_105 tw_507 (show kd 49 = 7 by decide) (by decide) rfl tw_508 ⟨rfl, rfl, Nat.le_of_ble_eq_true rfl, Nat.le_of_ble_eq_true rfl⟩ rfl rfl (Nat.le_of_ble_eq_true rfl) (mt_X7_finds _ _ _  hP) ?_
    rintro _ t13 ⟨r13, rfl, hP⟩
    show eX7_slack 16 [.ref (49), .int (p0), un] [.int (r13)] t13 _
    exact E_iret dX7_slack_16 rfl ⟨_, rfl, hP⟩
