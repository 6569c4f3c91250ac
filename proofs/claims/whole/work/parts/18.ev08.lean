theorem dX6_count_0 : decode cX6_count 0 = .ok (.iload_n 1, 1) := by decide +kernel
theorem dX6_count_1 : decode cX6_count 1 = .ok (.tableswitch 66 0 3 #[31, 39, 50, 58], 31) := by decide +kernel
theorem dX6_count_32 : decode cX6_count 32 = .ok (.aload_n 0, 1) := by decide +kernel
theorem dX6_count_33 : decode cX6_count 33 = .ok (.getfield 12, 3) := by decide +kernel
theorem dX6_count_36 : decode cX6_count 36 = .ok (.invokevirtual 146, 3) := by decide +kernel
theorem dX6_count_39 : decode cX6_count 39 = .ok (.ireturn, 1) := by decide +kernel
theorem dX6_count_40 : decode cX6_count 40 = .ok (.aload_n 0, 1) := by decide +kernel
theorem dX6_count_41 : decode cX6_count 41 = .ok (.getfield 39, 3) := by decide +kernel
theorem dX6_count_44 : decode cX6_count 44 = .ok (.getfield 219, 3) := by decide +kernel
theorem dX6_count_47 : decode cX6_count 47 = .ok (.getfield 223, 3) := by decide +kernel
theorem dX6_count_50 : decode cX6_count 50 = .ok (.ireturn, 1) := by decide +kernel
theorem dX6_count_51 : decode cX6_count 51 = .ok (.aload_n 0, 1) := by decide +kernel
theorem dX6_count_52 : decode cX6_count 52 = .ok (.getfield 12, 3) := by decide +kernel
theorem dX6_count_55 : decode cX6_count 55 = .ok (.invokevirtual 139, 3) := by decide +kernel
theorem dX6_count_58 : decode cX6_count 58 = .ok (.ireturn, 1) := by decide +kernel
theorem dX6_count_59 : decode cX6_count 59 = .ok (.aload_n 0, 1) := by decide +kernel
theorem dX6_count_60 : decode cX6_count 60 = .ok (.getfield 12, 3) := by decide +kernel
theorem dX6_count_63 : decode cX6_count 63 = .ok (.invokevirtual 299, 3) := by decide +kernel
theorem dX6_count_66 : decode cX6_count 66 = .ok (.ireturn, 1) := by decide +kernel
theorem dX6_count_67 : decode cX6_count 67 = .ok (.aload_n 0, 1) := by decide +kernel
theorem dX6_count_68 : decode cX6_count 68 = .ok (.ldc 64, 2) := by decide +kernel
theorem dX6_count_70 : decode cX6_count 70 = .ok (.invokevirtual 65, 3) := by decide +kernel
theorem dX6_count_73 : decode cX6_count 73 = .ok (.ireturn, 1) := by decide +kernel
def rmX6_count : Room := { frames := 4, cells := 0, slots := 0, locals := 95 }
abbrev eX6_count := Ev cX6_count 2 (some .int) RX6 rmX6_count
set_option maxRecDepth 20000 in
theorem mt_X6_count (p0 : Int32) (σ : St) (Q : Int32 → St → Prop)  (hP : P_X6_count p0 σ Q) : Mt yX6_count cX6_count 2 (some .int) rmX6_count [.ref (0), .int (p0)] σ (qI Q) := by
  refine Mt.of (k := 0) (ls := [.ref (0), .int (p0)]) (by decide +kernel) rfl (Nat.le_of_ble_eq_true rfl) ?_
  show eX6_count 0 [.ref (0), .int (p0)] [] σ _
  unfold P_X6_count at hP
  refine E_iload_n dX6_count_0 rfl ?_
  refine E_tsw [(0, 32), (1, 40), (2, 51), (3, 59)] 67 dX6_count_1 (by decide) (by decide) (by decide +kernel) (by decide +kernel) (List.forall_mem_cons.mpr ⟨fun hc => ?_, (List.forall_mem_cons.mpr ⟨fun hc => ?_, (List.forall_mem_cons.mpr ⟨fun hc => ?_, (List.forall_mem_cons.mpr ⟨fun hc => ?_, (fun q hq => absurd hq List.not_mem_nil)⟩)⟩)⟩)⟩) (fun hc => ?_)
  · replace hP := hP.1 hc
    refine E_aload_n dX6_count_32 rfl ?_
    refine E_getR (j := 0) dX6_count_33 (show kd 0 = 6 by decide) (by decide) rfl fd_RX6_12 (by decide) ?_
    refine E_callV (As := []) (rest := []) dX6_count_36 cl_RX6_146 tw_337 (ar_6_1 (show kd 0 = 6 by decide)).1 (by decide) rfl tw_338 ⟨rfl, rfl, Nat.le_of_ble_eq_true rfl, Nat.le_of_ble_eq_true rfl⟩ rfl rfl (Nat.le_of_ble_eq_true rfl) (mt_X0_allStones _ _ _ (ar_6_1 (show kd 0 = 6 by decide)).1 hP) ?_
    intro r0 s0 hq0; obtain ⟨r36, h0, hs0, hP⟩ := hq0; subst h0; rw [hs0]
    show eX6_count 39 [.ref (0), .int (p0)] [.int (r36)] σ _
    exact E_iret dX6_count_39 rfl ⟨_, rfl, hP⟩
  · replace hP := hP.2.1 hc
    refine E_aload_n dX6_count_40 rfl ?_
    refine E_getR (j := 5) dX6_count_41 (show kd 0 = 6 by decide) (by decide) rfl fd_RX6_39 (by decide) ?_
    refine E_getR (j := 0) dX6_count_44 (ar_6_26 (show kd 0 = 6 by decide)).1 (by decide) rfl fd_RX6_219 (by decide) ?_
    refine E_getI (j := 1) dX6_count_47 (ar_5_1 (ar_6_26 (show kd 0 = 6 by decide)).1).1 (by decide) rfl fd_RX6_223 ?_
    exact E_iret dX6_count_50 rfl ⟨_, rfl, hP⟩
  · replace hP := hP.2.2.1 hc
    refine E_aload_n dX6_count_51 rfl ?_
    refine E_getR (j := 0) dX6_count_52 (show kd 0 = 6 by decide) (by decide) rfl fd_RX6_12 (by decide) ?_
    refine E_callV (As := []) (rest := []) dX6_count_55 cl_RX6_139 tw_331 (ar_6_1 (show kd 0 = 6 by decide)).1 (by decide) rfl tw_332 ⟨rfl, rfl, Nat.le_of_ble_eq_true rfl, Nat.le_of_ble_eq_true rfl⟩ rfl rfl (Nat.le_of_ble_eq_true rfl) (mt_X0_allTops _ _ _ (ar_6_1 (show kd 0 = 6 by decide)).1 hP) ?_
    intro r0 s0 hq0; obtain ⟨r55, h0, hs0, hP⟩ := hq0; subst h0; rw [hs0]
    show eX6_count 58 [.ref (0), .int (p0)] [.int (r55)] σ _
    exact E_iret dX6_count_58 rfl ⟨_, rfl, hP⟩
  · replace hP := hP.2.2.2.1 hc
    refine E_aload_n dX6_count_59 rfl ?_
    refine E_getR (j := 0) dX6_count_60 (show kd 0 = 6 by decide) (by decide) rfl fd_RX6_12 (by decide) ?_
    refine E_callV (As := []) (rest := []) dX6_count_63 cl_RX6_299 tw_449 (ar_6_1 (show kd 0 = 6 by decide)).1 (by decide) rfl tw_450 ⟨rfl, rfl, Nat.le_of_ble_eq_true rfl, Nat.le_of_ble_eq_true rfl⟩ rfl rfl (Nat.le_of_ble_eq_true rfl) (mt_X0_allCoins _ _ _ (ar_6_1 (show kd 0 = 6 by decide)).1 hP) ?_
    intro r0 s0 hq0; obtain ⟨r63, h0, hs0, hP⟩ := hq0; subst h0; rw [hs0]
    show eX6_count 66 [.ref (0), .int (p0)] [.int (r63)] σ _
    exact E_iret dX6_count_66 rfl ⟨_, rfl, hP⟩
  · replace hP := hP.2.2.2.2 ⟨hc (0, 32) (List.mem_of_getElem? (i := 0) rfl), hc (1, 40) (List.mem_of_getElem? (i := 1) rfl), hc (2, 51) (List.mem_of_getElem? (i := 2) rfl), hc (3, 59) (List.mem_of_getElem? (i := 3) rfl)⟩
    refine E_aload_n dX6_count_67 rfl ?_
    refine E_ldc (v := (-1000000001)) dX6_count_68 tw_274 ?_
    refine E_callV (As := [.int ((-1000000001))]) (rest := []) dX6_count_70 cl_RX6_65 tw_279 (show kd 0 = 6 by decide) (by decide) rfl tw_280 ⟨rfl, rfl, Nat.le_of_ble_eq_true rfl, Nat.le_of_ble_eq_true rfl⟩ rfl rfl (Nat.le_of_ble_eq_true rfl) (mt_X6_finding _ _ _  hP) ?_
    rintro _ t70 ⟨r70, rfl, hP⟩
    show eX6_count 73 [.ref (0), .int (p0)] [.int (r70)] t70 _
    exact E_iret dX6_count_73 rfl ⟨_, rfl, hP⟩
theorem dX6_status_0 : decode cX6_status 0 = .ok (.iload_n 1, 1) := by decide +kernel
theorem dX6_status_1 : decode cX6_status 1 = .ok (.iconst (-1), 1) := by decide +kernel
theorem dX6_status_2 : decode cX6_status 2 = .ok (.bipush 6, 2) := by decide +kernel
theorem dX6_status_4 : decode cX6_status 4 = .ok (.invokestatic 116, 3) := by decide +kernel
theorem dX6_status_7 : decode cX6_status 7 = .ok (.ifCond .ne 10, 3) := by decide +kernel
theorem dX6_status_10 : decode cX6_status 10 = .ok (.aload_n 0, 1) := by decide +kernel
theorem dX6_status_11 : decode cX6_status 11 = .ok (.ldc 64, 2) := by decide +kernel
theorem dX6_status_13 : decode cX6_status 13 = .ok (.invokevirtual 65, 3) := by decide +kernel
theorem dX6_status_16 : decode cX6_status 16 = .ok (.ireturn, 1) := by decide +kernel
theorem dX6_status_17 : decode cX6_status 17 = .ok (.iload_n 1, 1) := by decide +kernel
theorem dX6_status_18 : decode cX6_status 18 = .ok (.ifCond .lt 10, 3) := by decide +kernel
theorem dX6_status_21 : decode cX6_status 21 = .ok (.aload_n 0, 1) := by decide +kernel
theorem dX6_status_22 : decode cX6_status 22 = .ok (.getfield 49, 3) := by decide +kernel
theorem dX6_status_25 : decode cX6_status 25 = .ok (.iload_n 1, 1) := by decide +kernel
theorem dX6_status_26 : decode cX6_status 26 = .ok (.iaload, 1) := by decide +kernel
theorem dX6_status_27 : decode cX6_status 27 = .ok (.ireturn, 1) := by decide +kernel
theorem dX6_status_28 : decode cX6_status 28 = .ok (.iconst 0, 1) := by decide +kernel
theorem dX6_status_29 : decode cX6_status 29 = .ok (.istore_n 2, 1) := by decide +kernel
theorem dX6_status_30 : decode cX6_status 30 = .ok (.iconst 0, 1) := by decide +kernel
theorem dX6_status_31 : decode cX6_status 31 = .ok (.istore_n 3, 1) := by decide +kernel
theorem dX6_status_32 : decode cX6_status 32 = .ok (.iload_n 3, 1) := by decide +kernel
theorem dX6_status_33 : decode cX6_status 33 = .ok (.bipush 7, 2) := by decide +kernel
theorem dX6_status_35 : decode cX6_status 35 = .ok (.if_icmp .ge 18, 3) := by decide +kernel
theorem dX6_status_38 : decode cX6_status 38 = .ok (.iload_n 2, 1) := by decide +kernel
theorem dX6_status_39 : decode cX6_status 39 = .ok (.aload_n 0, 1) := by decide +kernel
theorem dX6_status_40 : decode cX6_status 40 = .ok (.getfield 49, 3) := by decide +kernel
theorem dX6_status_43 : decode cX6_status 43 = .ok (.iload_n 3, 1) := by decide +kernel
theorem dX6_status_44 : decode cX6_status 44 = .ok (.iaload, 1) := by decide +kernel
theorem dX6_status_45 : decode cX6_status 45 = .ok (.iadd, 1) := by decide +kernel
theorem dX6_status_46 : decode cX6_status 46 = .ok (.istore_n 2, 1) := by decide +kernel
theorem dX6_status_47 : decode cX6_status 47 = .ok (.iinc 3 1, 3) := by decide +kernel
theorem dX6_status_50 : decode cX6_status 50 = .ok (.goto (-18), 3) := by decide +kernel
theorem dX6_status_53 : decode cX6_status 53 = .ok (.iload_n 2, 1) := by decide +kernel
theorem dX6_status_54 : decode cX6_status 54 = .ok (.ireturn, 1) := by decide +kernel
def rmX6_status : Room := { frames := 2, cells := 0, slots := 0, locals := 44 }
abbrev eX6_status := Ev cX6_status 4 (some .int) RX6 rmX6_status
set_option maxRecDepth 20000 in
theorem ev_X6_status_l32   (K : Int32 → St → Prop) (Q : Int32 → St → Prop) (hK : ∀ k2 s, K k2 s → eX6_status 53 [un, un, .int (k2), un] [] s (qI Q)) : ∀ (n : Nat) (l2 : Int32) (l3 : Int32) (σ : St), P_X6_status_l32  K Q n l2 l3 σ → eX6_status 32 [.ref (0), un, .int (l2), .int (l3)] [] σ (qI Q) := by
  intro n
  induction n with
  | zero => intro l2 l3 σ hP; exact hP.elim
  | succ n ih =>
    intro l2 l3 σ hP
    rw [P_X6_status_l32] at hP
    refine E_iload_n dX6_status_32 rfl ?_
    refine E_bipush (v := 7) dX6_status_33 (by decide) ?_
    refine E_icmp_ge 53 dX6_status_35 (by decide) (fun hc => ?_) (fun hc => ?_)
    · replace hP := hP.1 hc
      refine E_mask [false, false, true, false] rfl ?_
      exact hK (l2) _ hP
    · replace hP := hP.2 hc
      refine E_iload_n dX6_status_38 rfl ?_
      refine E_aload_n dX6_status_39 rfl ?_
      refine E_getR (j := 7) dX6_status_40 (show kd 0 = 6 by decide) (by decide) rfl fd_RX6_49 (by decide) ?_
      refine E_iload_n dX6_status_43 rfl ?_
      obtain ⟨hb, hP⟩ := hP
      refine E_iald dX6_status_44 (ar_6_40 (show kd 0 = 6 by decide)).1 (ar_6_40 (show kd 0 = 6 by decide)).2 hb ?_
      refine E_iadd dX6_status_45 ?_
      refine E_istore_n (ls' := [.ref (0), un, .int (l2 + (gI σ 40 l3.toNatClampNeg)), .int (l3)]) dX6_status_46 (by decide) rfl ?_
      refine E_iinc (ls' := [.ref (0), un, .int (l2 + (gI σ 40 l3.toNatClampNeg)), .int (l3 + 1)]) dX6_status_47 rfl rfl (by decide) rfl ?_
      refine E_goto 32 dX6_status_50 (by decide) ?_
      exact ih (l2 + (gI σ 40 l3.toNatClampNeg)) (l3 + 1) _ hP
set_option maxRecDepth 20000 in
theorem mt_X6_status (p0 : Int32) (σ : St) (Q : Int32 → St → Prop)  (hP : P_X6_status p0 σ Q) : Mt yX6_status cX6_status 4 (some .int) rmX6_status [.ref (0), .int (p0)] σ (qI Q) := by
  refine Mt.of (k := 2) (ls := [.ref (0), .int (p0), un, un]) (by decide +kernel) rfl (Nat.le_of_ble_eq_true rfl) ?_
  show eX6_status 0 [.ref (0), .int (p0), un, un] [] σ _
  unfold P_X6_status at hP
  refine E_iload_n dX6_status_0 rfl ?_
  refine E_iconst (v := (-1)) dX6_status_1 (by decide) ?_
  refine E_bipush (v := 6) dX6_status_2 (by decide) ?_
  refine E_callS (As := [.int (p0), .int ((-1)), .int (6)]) (rest := []) dX6_status_4 cl_RX6_116 tw_143 ⟨rfl, rfl, Nat.le_of_ble_eq_true rfl, Nat.le_of_ble_eq_true rfl⟩ rfl rfl (Nat.le_of_ble_eq_true rfl) (mt_X6_isWithin _ _ _ _ _  hP) ?_
  intro r0 s0 hq0; obtain ⟨r4, h0, hs0, hP⟩ := hq0; subst h0; rw [hs0]
  show eX6_status 7 [.ref (0), .int (p0), un, un] [.int (bI r4)] σ _
  refine E_ifz_ne 17 dX6_status_7 (by decide) (fun hc => ?_) (fun hc => ?_)
  · replace hP := hP.1 hc
    refine E_iload_n dX6_status_17 rfl ?_
    refine E_if_lt 28 dX6_status_18 (by decide) (fun hc => ?_) (fun hc => ?_)
    · replace hP := hP.1 hc
      refine E_iconst (v := 0) dX6_status_28 (by decide) ?_
      refine E_istore_n (ls' := [.ref (0), .int (p0), .int (0), un]) dX6_status_29 (by decide) rfl ?_
      refine E_iconst (v := 0) dX6_status_30 (by decide) ?_
      refine E_istore_n (ls' := [.ref (0), .int (p0), .int (0), .int (0)]) dX6_status_31 (by decide) rfl ?_
      refine E_mask [true, false, true, true] rfl ?_
      obtain ⟨m32, hP⟩ := hP
      refine ev_X6_status_l32   _ Q ?_ m32 _ _ _ hP
      intro k2 t53 hP
      refine E_iload_n dX6_status_53 rfl ?_
      exact E_iret dX6_status_54 rfl ⟨_, rfl, hP⟩
    · replace hP := hP.2 hc
      refine E_aload_n dX6_status_21 rfl ?_
      refine E_getR (j := 7) dX6_status_22 (show kd 0 = 6 by decide) (by decide) rfl fd_RX6_49 (by decide) ?_
      refine E_iload_n dX6_status_25 rfl ?_
      obtain ⟨hb, hP⟩ := hP
      refine E_iald dX6_status_26 (ar_6_40 (show kd 0 = 6 by decide)).1 (ar_6_40 (show kd 0 = 6 by decide)).2 hb ?_
      exact E_iret dX6_status_27 rfl ⟨_, rfl, hP⟩
  · replace hP := hP.2 hc
    refine E_aload_n dX6_status_10 rfl ?_
    refine E_ldc (v := (-1000000001)) dX6_status_11 tw_274 ?_
    refine E_callV (As := [.int ((-1000000001))]) (rest := []) dX6_status_13 cl_RX6_65 tw_279 (show kd 0 = 6 by decide) (by decide) rfl tw_280 ⟨rfl, rfl, Nat.le_of_ble_eq_true rfl, Nat.le_of_ble_eq_true rfl⟩ rfl rfl (Nat.le_of_ble_eq_true rfl) (mt_X6_finding _ _ _  hP) ?_
    rintro _ t13 ⟨r13, rfl, hP⟩
    show eX6_status 16 [.ref (0), .int (p0), un, un] [.int (r13)] t13 _
    exact E_iret dX6_status_16 rfl ⟨_, rfl, hP⟩
theorem dX7_in_0 : decode cX7_in 0 = .ok (.iload_n 0, 1) := by decide +kernel
theorem dX7_in_1 : decode cX7_in 1 = .ok (.iload_n 1, 1) := by decide +kernel
theorem dX7_in_2 : decode cX7_in 2 = .ok (.if_icmp .lt 12, 3) := by decide +kernel
theorem dX7_in_5 : decode cX7_in 5 = .ok (.iload_n 0, 1) := by decide +kernel
theorem dX7_in_6 : decode cX7_in 6 = .ok (.iload_n 2, 1) := by decide +kernel
theorem dX7_in_7 : decode cX7_in 7 = .ok (.if_icmp .gt 7, 3) := by decide +kernel
theorem dX7_in_10 : decode cX7_in 10 = .ok (.iconst 1, 1) := by decide +kernel
theorem dX7_in_11 : decode cX7_in 11 = .ok (.goto 4, 3) := by decide +kernel
theorem dX7_in_14 : decode cX7_in 14 = .ok (.iconst 0, 1) := by decide +kernel
theorem dX7_in_15 : decode cX7_in 15 = .ok (.ireturn, 1) := by decide +kernel
def rmX7_in : Room := { frames := 0, cells := 0, slots := 0, locals := 0 }
abbrev eX7_in := Ev cX7_in 3 (some .boolean) RX7 rmX7_in
set_option maxRecDepth 20000 in
theorem mt_X7_in (p0 : Int32) (p1 : Int32) (p2 : Int32) (σ : St) (Q : Bool → Prop)  (hP : P_X7_in p0 p1 p2 σ Q) : Mt yX7_in cX7_in 3 (some .boolean) rmX7_in [.int (p0), .int (p1), .int (p2)] σ (qB fun x s => s = σ ∧ Q x) := by
  refine Mt.of (k := 0) (ls := [.int (p0), .int (p1), .int (p2)]) (by decide +kernel) rfl (Nat.le_of_ble_eq_true rfl) ?_
  show eX7_in 0 [.int (p0), .int (p1), .int (p2)] [] σ _
  unfold P_X7_in at hP
  refine E_iload_n dX7_in_0 rfl ?_
  refine E_iload_n dX7_in_1 rfl ?_
  refine E_icmp_lt 14 dX7_in_2 (by decide) (fun hc => ?_) (fun hc => ?_)
  · replace hP := hP.1 hc
    refine E_iconst (v := 0) dX7_in_14 (by decide) ?_
    exact E_nret dX7_in_15 rfl (nar_b false) ⟨false, rfl, rfl, hP⟩
  · replace hP := hP.2 hc
    refine E_iload_n dX7_in_5 rfl ?_
    refine E_iload_n dX7_in_6 rfl ?_
    refine E_icmp_gt 14 dX7_in_7 (by decide) (fun hc => ?_) (fun hc => ?_)
    · replace hP := hP.1 hc
      refine E_iconst (v := 0) dX7_in_14 (by decide) ?_
      exact E_nret dX7_in_15 rfl (nar_b false) ⟨false, rfl, rfl, hP⟩
    · replace hP := hP.2 hc
      refine E_iconst (v := 1) dX7_in_10 (by decide) ?_
      refine E_goto 15 dX7_in_11 (by decide) ?_
      exact E_nret dX7_in_15 rfl (nar_b true) ⟨true, rfl, rfl, hP⟩
theorem dX7_finds_0 : decode cX7_finds 0 = .ok (.aload_n 0, 1) := by decide +kernel
theorem dX7_finds_1 : decode cX7_finds 1 = .ok (.getfield 13, 3) := by decide +kernel
theorem dX7_finds_4 : decode cX7_finds 4 = .ok (.ldc 57, 2) := by decide +kernel
theorem dX7_finds_6 : decode cX7_finds 6 = .ok (.iload_n 1, 1) := by decide +kernel
theorem dX7_finds_7 : decode cX7_finds 7 = .ok (.isub, 1) := by decide +kernel
theorem dX7_finds_8 : decode cX7_finds 8 = .ok (.dup2, 1) := by decide +kernel
theorem dX7_finds_9 : decode cX7_finds 9 = .ok (.iaload, 1) := by decide +kernel
theorem dX7_finds_10 : decode cX7_finds 10 = .ok (.iconst 1, 1) := by decide +kernel
theorem dX7_finds_11 : decode cX7_finds 11 = .ok (.iadd, 1) := by decide +kernel
theorem dX7_finds_12 : decode cX7_finds 12 = .ok (.iastore, 1) := by decide +kernel
theorem dX7_finds_13 : decode cX7_finds 13 = .ok (.iload_n 1, 1) := by decide +kernel
theorem dX7_finds_14 : decode cX7_finds 14 = .ok (.ireturn, 1) := by decide +kernel
def rmX7_finds : Room := { frames := 0, cells := 0, slots := 0, locals := 0 }
abbrev eX7_finds := Ev cX7_finds 2 (some .int) RX7 rmX7_finds
set_option maxRecDepth 20000 in
theorem mt_X7_finds (p0 : Int32) (σ : St) (Q : Int32 → St → Prop)  (hP : P_X7_finds p0 σ Q) : Mt yX7_finds cX7_finds 2 (some .int) rmX7_finds [.ref (49), .int (p0)] σ (qI Q) := by
  refine Mt.of (k := 0) (ls := [.ref (49), .int (p0)]) (by decide +kernel) rfl (Nat.le_of_ble_eq_true rfl) ?_
  show eX7_finds 0 [.ref (49), .int (p0)] [] σ _
  unfold P_X7_finds at hP
  refine E_aload_n dX7_finds_0 rfl ?_
  refine E_getR (j := 1) dX7_finds_1 (show kd 49 = 7 by decide) (by decide) rfl fd_RX7_13 (by decide) ?_
  refine E_ldc (v := (-1000000001)) dX7_finds_4 tw_452 ?_
  refine E_iload_n dX7_finds_6 rfl ?_
  refine E_isub dX7_finds_7 ?_
  refine E_dup2 dX7_finds_8 rfl rfl ?_
  obtain ⟨hb, hP⟩ := hP
  refine E_iald dX7_finds_9 (ar_7_2 (show kd 49 = 7 by decide)).1 (ar_7_2 (show kd 49 = 7 by decide)).2 hb ?_
  refine E_iconst (v := 1) dX7_finds_10 (by decide) ?_
  refine E_iadd dX7_finds_11 ?_
  obtain ⟨hb, hP⟩ := hP
  refine E_iast dX7_finds_12 (ar_7_2 (show kd 49 = 7 by decide)).1 (ar_7_2 (show kd 49 = 7 by decide)).2 hb ?_
  refine E_iload_n dX7_finds_13 rfl ?_
  exact E_iret dX7_finds_14 rfl ⟨_, rfl, hP⟩
theorem dX7_isWall_0 : decode cX7_isWall 0 = .ok (.iload_n 0, 1) := by decide +kernel
theorem dX7_isWall_1 : decode cX7_isWall 1 = .ok (.iconst 0, 1) := by decide +kernel
theorem dX7_isWall_2 : decode cX7_isWall 2 = .ok (.iconst 3, 1) := by decide +kernel
theorem dX7_isWall_3 : decode cX7_isWall 3 = .ok (.invokestatic 58, 3) := by decide +kernel
theorem dX7_isWall_6 : decode cX7_isWall 6 = .ok (.ireturn, 1) := by decide +kernel
def rmX7_isWall : Room := { frames := 1, cells := 0, slots := 0, locals := 22 }
abbrev eX7_isWall := Ev cX7_isWall 1 (some .boolean) RX7 rmX7_isWall
set_option maxRecDepth 20000 in
theorem mt_X7_isWall (p0 : Int32) (σ : St) (Q : Bool → Prop)  (hP : P_X7_isWall p0 σ Q) : Mt yX7_isWall cX7_isWall 1 (some .boolean) rmX7_isWall [.int (p0)] σ (qB fun x s => s = σ ∧ Q x) := by
  refine Mt.of (k := 0) (ls := [.int (p0)]) (by decide +kernel) rfl (Nat.le_of_ble_eq_true rfl) ?_
  show eX7_isWall 0 [.int (p0)] [] σ _
  unfold P_X7_isWall at hP
  refine E_iload_n dX7_isWall_0 rfl ?_
  refine E_iconst (v := 0) dX7_isWall_1 (by decide) ?_
  refine E_iconst (v := 3) dX7_isWall_2 (by decide) ?_
  refine E_callS (As := [.int (p0), .int (0), .int (3)]) (rest := []) dX7_isWall_3 cl_RX7_58 tw_456 ⟨rfl, rfl, Nat.le_of_ble_eq_true rfl, Nat.le_of_ble_eq_true rfl⟩ rfl rfl (Nat.le_of_ble_eq_true rfl) (mt_X7_in _ _ _ _ _  hP) ?_
  intro r0 s0 hq0; obtain ⟨r3, h0, hs0, hP⟩ := hq0; subst h0; rw [hs0]
  show eX7_isWall 6 [.int (p0)] [.int (bI r3)] σ _
  exact E_nret dX7_isWall_6 rfl (nar_b r3) ⟨r3, rfl, rfl, hP⟩
theorem dX7_isKind_0 : decode cX7_isKind 0 = .ok (.iload_n 0, 1) := by decide +kernel
theorem dX7_isKind_1 : decode cX7_isKind 1 = .ok (.iconst 0, 1) := by decide +kernel
theorem dX7_isKind_2 : decode cX7_isKind 2 = .ok (.iconst 5, 1) := by decide +kernel
theorem dX7_isKind_3 : decode cX7_isKind 3 = .ok (.invokestatic 58, 3) := by decide +kernel
theorem dX7_isKind_6 : decode cX7_isKind 6 = .ok (.ireturn, 1) := by decide +kernel
def rmX7_isKind : Room := { frames := 1, cells := 0, slots := 0, locals := 22 }
abbrev eX7_isKind := Ev cX7_isKind 1 (some .boolean) RX7 rmX7_isKind
set_option maxRecDepth 20000 in
theorem mt_X7_isKind (p0 : Int32) (σ : St) (Q : Bool → Prop)  (hP : P_X7_isKind p0 σ Q) : Mt yX7_isKind cX7_isKind 1 (some .boolean) rmX7_isKind [.int (p0)] σ (qB fun x s => s = σ ∧ Q x) := by
  refine Mt.of (k := 0) (ls := [.int (p0)]) (by decide +kernel) rfl (Nat.le_of_ble_eq_true rfl) ?_
  show eX7_isKind 0 [.int (p0)] [] σ _
  unfold P_X7_isKind at hP
  refine E_iload_n dX7_isKind_0 rfl ?_
  refine E_iconst (v := 0) dX7_isKind_1 (by decide) ?_
  refine E_iconst (v := 5) dX7_isKind_2 (by decide) ?_
  refine E_callS (As := [.int (p0), .int (0), .int (5)]) (rest := []) dX7_isKind_3 cl_RX7_58 tw_456 ⟨rfl, rfl, Nat.le_of_ble_eq_true rfl, Nat.le_of_ble_eq_true rfl⟩ rfl rfl (Nat.le_of_ble_eq_true rfl) (mt_X7_in _ _ _ _ _  hP) ?_
  intro r0 s0 hq0; obtain ⟨r3, h0, hs0, hP⟩ := hq0; subst h0; rw [hs0]
  show eX7_isKind 6 [.int (p0)] [.int (bI r3)] σ _
  exact E_nret dX7_isKind_6 rfl (nar_b r3) ⟨r3, rfl, rfl, hP⟩
theorem dX7_many_0 : decode cX7_many 0 = .ok (.aload_n 0, 1) := by decide +kernel
theorem dX7_many_1 : decode cX7_many 1 = .ok (.getfield 7, 3) := by decide +kernel
theorem dX7_many_4 : decode cX7_many 4 = .ok (.bipush 23, 2) := by decide +kernel
theorem dX7_many_6 : decode cX7_many 6 = .ok (.iload_n 1, 1) := by decide +kernel
theorem dX7_many_7 : decode cX7_many 7 = .ok (.imul, 1) := by decide +kernel
theorem dX7_many_8 : decode cX7_many 8 = .ok (.iconst 0, 1) := by decide +kernel
theorem dX7_many_9 : decode cX7_many 9 = .ok (.iadd, 1) := by decide +kernel
theorem dX7_many_10 : decode cX7_many 10 = .ok (.iaload, 1) := by decide +kernel
theorem dX7_many_11 : decode cX7_many 11 = .ok (.ireturn, 1) := by decide +kernel
def rmX7_many : Room := { frames := 0, cells := 0, slots := 0, locals := 0 }
abbrev eX7_many := Ev cX7_many 2 (some .int) RX7 rmX7_many
set_option maxRecDepth 20000 in
theorem mt_X7_many (p0 : Int32) (σ : St) (Q : Int32 → Prop)  (hP : P_X7_many p0 σ Q) : Mt yX7_many cX7_many 2 (some .int) rmX7_many [.ref (49), .int (p0)] σ (qI fun x s => s = σ ∧ Q x) := by
  refine Mt.of (k := 0) (ls := [.ref (49), .int (p0)]) (by decide +kernel) rfl (Nat.le_of_ble_eq_true rfl) ?_
  show eX7_many 0 [.ref (49), .int (p0)] [] σ _
  unfold P_X7_many at hP
  refine E_aload_n dX7_many_0 rfl ?_
  refine E_getR (j := 0) dX7_many_1 (show kd 49 = 7 by decide) (by decide) rfl fd_RX7_7 (by decide) ?_
  refine E_bipush (v := 23) dX7_many_4 (by decide) ?_
  refine E_iload_n dX7_many_6 rfl ?_
  refine E_imul dX7_many_7 ?_
  refine E_iconst (v := 0) dX7_many_8 (by decide) ?_
  refine E_iadd dX7_many_9 ?_
  obtain ⟨hb, hP⟩ := hP
  refine E_iald dX7_many_10 (ar_7_1 (show kd 49 = 7 by decide)).1 (ar_7_1 (show kd 49 = 7 by decide)).2 hb ?_
  exact E_iret dX7_many_11 rfl ⟨_, rfl, rfl, hP⟩
theorem dX7_isStone_0 : decode cX7_isStone 0 = .ok (.iload_n 1, 1) := by decide +kernel
theorem dX7_isStone_1 : decode cX7_isStone 1 = .ok (.invokestatic 62, 3) := by decide +kernel
theorem dX7_isStone_4 : decode cX7_isStone 4 = .ok (.ifCond .eq 22, 3) := by decide +kernel
theorem dX7_isStone_7 : decode cX7_isStone 7 = .ok (.iload_n 2, 1) := by decide +kernel
theorem dX7_isStone_8 : decode cX7_isStone 8 = .ok (.iconst 0, 1) := by decide +kernel
theorem dX7_isStone_9 : decode cX7_isStone 9 = .ok (.aload_n 0, 1) := by decide +kernel
theorem dX7_isStone_10 : decode cX7_isStone 10 = .ok (.iload_n 1, 1) := by decide +kernel
theorem dX7_isStone_11 : decode cX7_isStone 11 = .ok (.invokevirtual 66, 3) := by decide +kernel
theorem dX7_isStone_14 : decode cX7_isStone 14 = .ok (.iconst 1, 1) := by decide +kernel
theorem dX7_isStone_15 : decode cX7_isStone 15 = .ok (.isub, 1) := by decide +kernel
theorem dX7_isStone_16 : decode cX7_isStone 16 = .ok (.invokestatic 58, 3) := by decide +kernel
theorem dX7_isStone_19 : decode cX7_isStone 19 = .ok (.ifCond .eq 7, 3) := by decide +kernel
theorem dX7_isStone_22 : decode cX7_isStone 22 = .ok (.iconst 1, 1) := by decide +kernel
theorem dX7_isStone_23 : decode cX7_isStone 23 = .ok (.goto 4, 3) := by decide +kernel
theorem dX7_isStone_26 : decode cX7_isStone 26 = .ok (.iconst 0, 1) := by decide +kernel
theorem dX7_isStone_27 : decode cX7_isStone 27 = .ok (.ireturn, 1) := by decide +kernel
def rmX7_isStone : Room := { frames := 2, cells := 0, slots := 0, locals := 42 }
abbrev eX7_isStone := Ev cX7_isStone 3 (some .boolean) RX7 rmX7_isStone
set_option maxRecDepth 20000 in
theorem mt_X7_isStone (p0 : Int32) (p1 : Int32) (σ : St) (Q : Bool → Prop)  (hP : P_X7_isStone p0 p1 σ Q) : Mt yX7_isStone cX7_isStone 3 (some .boolean) rmX7_isStone [.ref (49), .int (p0), .int (p1)] σ (qB fun x s => s = σ ∧ Q x) := by
  refine Mt.of (k := 0) (ls := [.ref (49), .int (p0), .int (p1)]) (by decide +kernel) rfl (Nat.le_of_ble_eq_true rfl) ?_
  show eX7_isStone 0 [.ref (49), .int (p0), .int (p1)] [] σ _
  unfold P_X7_isStone at hP
  refine E_iload_n dX7_isStone_0 rfl ?_
  refine E_callS (As := [.int (p0)]) (rest := []) dX7_isStone_1 cl_RX7_62 tw_464 ⟨rfl, rfl, Nat.le_of_ble_eq_true rfl, Nat.le_of_ble_eq_true rfl⟩ rfl rfl (Nat.le_of_ble_eq_true rfl) (mt_X7_isWall _ _ _  hP) ?_
  intro r0 s0 hq0; obtain ⟨r1, h0, hs0, hP⟩ := hq0; subst h0; rw [hs0]
  show eX7_isStone 4 [.ref (49), .int (p0), .int (p1)] [.int (bI r1)] σ _
  refine E_ifz_eq 26 dX7_isStone_4 (by decide) (fun hc => ?_) (fun hc => ?_)
  · replace hP := hP.1 hc
    refine E_iconst (v := 0) dX7_isStone_26 (by decide) ?_
    exact E_nret dX7_isStone_27 rfl (nar_b false) ⟨false, rfl, rfl, hP⟩
  · replace hP := hP.2 hc
    refine E_iload_n dX7_isStone_7 rfl ?_
    refine E_iconst (v := 0) dX7_isStone_8 (by decide) ?_
    refine E_aload_n dX7_isStone_9 rfl ?_
    refine E_iload_n dX7_isStone_10 rfl ?_
    refine E_callV (As := [.int (p0)]) (rest := [.int (0), .int (p1)]) dX7_isStone_11 cl_RX7_66 tw_460 (show kd 49 = 7 by decide) (by decide) rfl tw_461 ⟨rfl, rfl, Nat.le_of_ble_eq_true rfl, Nat.le_of_ble_eq_true rfl⟩ rfl rfl (Nat.le_of_ble_eq_true rfl) (mt_X7_many _ _ _  hP) ?_
    intro r0 s0 hq0; obtain ⟨r11, h0, hs0, hP⟩ := hq0; subst h0; rw [hs0]
    show eX7_isStone 14 [.ref (49), .int (p0), .int (p1)] [.int (r11), .int (0), .int (p1)] σ _
    refine E_iconst (v := 1) dX7_isStone_14 (by decide) ?_
    refine E_isub dX7_isStone_15 ?_
    refine E_callS (As := [.int (p1), .int (0), .int (r11 - 1)]) (rest := []) dX7_isStone_16 cl_RX7_58 tw_456 ⟨rfl, rfl, Nat.le_of_ble_eq_true rfl, Nat.le_of_ble_eq_true rfl⟩ rfl rfl (Nat.le_of_ble_eq_true rfl) (mt_X7_in _ _ _ _ _  hP) ?_
    intro r0 s0 hq0; obtain ⟨r16, h0, hs0, hP⟩ := hq0; subst h0; rw [hs0]
    show eX7_isStone 19 [.ref (49), .int (p0), .int (p1)] [.int (bI r16)] σ _
    refine E_ifz_eq 26 dX7_isStone_19 (by decide) (fun hc => ?_) (fun hc => ?_)
    · replace hP := hP.1 hc
      refine E_iconst (v := 0) dX7_isStone_26 (by decide) ?_
      exact E_nret dX7_isStone_27 rfl (nar_b false) ⟨false, rfl, rfl, hP⟩
    · replace hP := hP.2 hc
      refine E_iconst (v := 1) dX7_isStone_22 (by decide) ?_
      refine E_goto 27 dX7_isStone_23 (by decide) ?_
      exact E_nret dX7_isStone_27 rfl (nar_b true) ⟨true, rfl, rfl, hP⟩
theorem dX7_at_0 : decode cX7_at 0 = .ok (.bipush 23, 2) := by decide +kernel
theorem dX7_at_2 : decode cX7_at 2 = .ok (.iload_n 0, 1) := by decide +kernel
theorem dX7_at_3 : decode cX7_at 3 = .ok (.imul, 1) := by decide +kernel
theorem dX7_at_4 : decode cX7_at 4 = .ok (.iconst 2, 1) := by decide +kernel
theorem dX7_at_5 : decode cX7_at 5 = .ok (.iadd, 1) := by decide +kernel
theorem dX7_at_6 : decode cX7_at 6 = .ok (.iconst 3, 1) := by decide +kernel
theorem dX7_at_7 : decode cX7_at 7 = .ok (.iload_n 1, 1) := by decide +kernel
theorem dX7_at_8 : decode cX7_at 8 = .ok (.imul, 1) := by decide +kernel
theorem dX7_at_9 : decode cX7_at 9 = .ok (.iadd, 1) := by decide +kernel
theorem dX7_at_10 : decode cX7_at 10 = .ok (.iload_n 2, 1) := by decide +kernel
theorem dX7_at_11 : decode cX7_at 11 = .ok (.iadd, 1) := by decide +kernel
theorem dX7_at_12 : decode cX7_at 12 = .ok (.ireturn, 1) := by decide +kernel
def rmX7_at : Room := { frames := 0, cells := 0, slots := 0, locals := 0 }
abbrev eX7_at := Ev cX7_at 3 (some .int) RX7 rmX7_at
set_option maxRecDepth 20000 in
theorem mt_X7_at (p0 : Int32) (p1 : Int32) (p2 : Int32) (σ : St) (Q : Int32 → Prop)  (hP : P_X7_at p0 p1 p2 σ Q) : Mt yX7_at cX7_at 3 (some .int) rmX7_at [.int (p0), .int (p1), .int (p2)] σ (qI fun x s => s = σ ∧ Q x) := by
  refine Mt.of (k := 0) (ls := [.int (p0), .int (p1), .int (p2)]) (by decide +kernel) rfl (Nat.le_of_ble_eq_true rfl) ?_
  show eX7_at 0 [.int (p0), .int (p1), .int (p2)] [] σ _
  unfold P_X7_at at hP
  refine E_bipush (v := 23) dX7_at_0 (by decide) ?_
  refine E_iload_n dX7_at_2 rfl ?_
  refine E_imul dX7_at_3 ?_
  refine E_iconst (v := 2) dX7_at_4 (by decide) ?_
  refine E_iadd dX7_at_5 ?_
  refine E_iconst (v := 3) dX7_at_6 (by decide) ?_
  refine E_iload_n dX7_at_7 rfl ?_
  refine E_imul dX7_at_8 ?_
  refine E_iadd dX7_at_9 ?_
  refine E_iload_n dX7_at_10 rfl ?_
  refine E_iadd dX7_at_11 ?_
  exact E_iret dX7_at_12 rfl ⟨_, rfl, rfl, hP⟩
theorem dX7_its_0 : decode cX7_its 0 = .ok (.aload_n 0, 1) := by decide +kernel
theorem dX7_its_1 : decode cX7_its 1 = .ok (.getfield 7, 3) := by decide +kernel
theorem dX7_its_4 : decode cX7_its 4 = .ok (.iload_n 1, 1) := by decide +kernel
theorem dX7_its_5 : decode cX7_its 5 = .ok (.iload_n 2, 1) := by decide +kernel
theorem dX7_its_6 : decode cX7_its 6 = .ok (.iload_n 3, 1) := by decide +kernel
theorem dX7_its_7 : decode cX7_its 7 = .ok (.invokestatic 70, 3) := by decide +kernel
theorem dX7_its_10 : decode cX7_its 10 = .ok (.iaload, 1) := by decide +kernel
theorem dX7_its_11 : decode cX7_its 11 = .ok (.ireturn, 1) := by decide +kernel
def rmX7_its : Room := { frames := 1, cells := 0, slots := 0, locals := 22 }
abbrev eX7_its := Ev cX7_its 4 (some .int) RX7 rmX7_its
set_option maxRecDepth 20000 in
theorem mt_X7_its (p0 : Int32) (p1 : Int32) (p2 : Int32) (σ : St) (Q : Int32 → Prop)  (hP : P_X7_its p0 p1 p2 σ Q) : Mt yX7_its cX7_its 4 (some .int) rmX7_its [.ref (49), .int (p0), .int (p1), .int (p2)] σ (qI fun x s => s = σ ∧ Q x) := by
  refine Mt.of (k := 0) (ls := [.ref (49), .int (p0), .int (p1), .int (p2)]) (by decide +kernel) rfl (Nat.le_of_ble_eq_true rfl) ?_
  show eX7_its 0 [.ref (49), .int (p0), .int (p1), .int (p2)] [] σ _
  unfold P_X7_its at hP
  refine E_aload_n dX7_its_0 rfl ?_
  refine E_getR (j := 0) dX7_its_1 (show kd 49 = 7 by decide) (by decide) rfl fd_RX7_7 (by decide) ?_
  refine E_iload_n dX7_its_4 rfl ?_
  refine E_iload_n dX7_its_5 rfl ?_
  refine E_iload_n dX7_its_6 rfl ?_
  refine E_callS (As := [.int (p0), .int (p1), .int (p2)]) (rest := [.ref (50)]) dX7_its_7 cl_RX7_70 tw_467 ⟨rfl, rfl, Nat.le_of_ble_eq_true rfl, Nat.le_of_ble_eq_true rfl⟩ rfl rfl (Nat.le_of_ble_eq_true rfl) (mt_X7_at _ _ _ _ _  hP) ?_
  intro r0 s0 hq0; obtain ⟨r7, h0, hs0, hP⟩ := hq0; subst h0; rw [hs0]
  show eX7_its 10 [.ref (49), .int (p0), .int (p1), .int (p2)] [.int (r7), .ref (50)] σ _
  obtain ⟨hb, hP⟩ := hP
  refine E_iald dX7_its_10 (ar_7_1 (show kd 49 = 7 by decide)).1 (ar_7_1 (show kd 49 = 7 by decide)).2 hb ?_
  exact E_iret dX7_its_11 rfl ⟨_, rfl, rfl, hP⟩
theorem dX7_tall_0 : decode cX7_tall 0 = .ok (.aload_n 0, 1) := by decide +kernel
theorem dX7_tall_1 : decode cX7_tall 1 = .ok (.iload_n 1, 1) := by decide +kernel
theorem dX7_tall_2 : decode cX7_tall 2 = .ok (.iload_n 2, 1) := by decide +kernel
theorem dX7_tall_3 : decode cX7_tall 3 = .ok (.iconst 0, 1) := by decide +kernel
theorem dX7_tall_4 : decode cX7_tall 4 = .ok (.invokevirtual 74, 3) := by decide +kernel
theorem dX7_tall_7 : decode cX7_tall 7 = .ok (.istore_n 3, 1) := by decide +kernel
theorem dX7_tall_8 : decode cX7_tall 8 = .ok (.aload_n 0, 1) := by decide +kernel
theorem dX7_tall_9 : decode cX7_tall 9 = .ok (.iload_n 1, 1) := by decide +kernel
theorem dX7_tall_10 : decode cX7_tall 10 = .ok (.iload_n 2, 1) := by decide +kernel
theorem dX7_tall_11 : decode cX7_tall 11 = .ok (.iconst 1, 1) := by decide +kernel
theorem dX7_tall_12 : decode cX7_tall 12 = .ok (.invokevirtual 74, 3) := by decide +kernel
theorem dX7_tall_15 : decode cX7_tall 15 = .ok (.istore 4, 2) := by decide +kernel
theorem dX7_tall_17 : decode cX7_tall 17 = .ok (.iload 4, 2) := by decide +kernel
theorem dX7_tall_19 : decode cX7_tall 19 = .ok (.aload_n 0, 1) := by decide +kernel
theorem dX7_tall_20 : decode cX7_tall 20 = .ok (.getfield 7, 3) := by decide +kernel
theorem dX7_tall_23 : decode cX7_tall 23 = .ok (.bipush 94, 2) := by decide +kernel
theorem dX7_tall_25 : decode cX7_tall 25 = .ok (.iaload, 1) := by decide +kernel
theorem dX7_tall_26 : decode cX7_tall 26 = .ok (.isub, 1) := by decide +kernel
theorem dX7_tall_27 : decode cX7_tall 27 = .ok (.iconst 1, 1) := by decide +kernel
theorem dX7_tall_28 : decode cX7_tall 28 = .ok (.if_icmp .le 16, 3) := by decide +kernel
theorem dX7_tall_31 : decode cX7_tall 31 = .ok (.iload 4, 2) := by decide +kernel
theorem dX7_tall_33 : decode cX7_tall 33 = .ok (.aload_n 0, 1) := by decide +kernel
theorem dX7_tall_34 : decode cX7_tall 34 = .ok (.getfield 7, 3) := by decide +kernel
theorem dX7_tall_37 : decode cX7_tall 37 = .ok (.bipush 94, 2) := by decide +kernel
theorem dX7_tall_39 : decode cX7_tall 39 = .ok (.iaload, 1) := by decide +kernel
theorem dX7_tall_40 : decode cX7_tall 40 = .ok (.isub, 1) := by decide +kernel
theorem dX7_tall_41 : decode cX7_tall 41 = .ok (.goto 4, 3) := by decide +kernel
theorem dX7_tall_44 : decode cX7_tall 44 = .ok (.iconst 1, 1) := by decide +kernel
theorem dX7_tall_45 : decode cX7_tall 45 = .ok (.istore 5, 2) := by decide +kernel
theorem dX7_tall_47 : decode cX7_tall 47 = .ok (.iload_n 3, 1) := by decide +kernel
theorem dX7_tall_48 : decode cX7_tall 48 = .ok (.iconst 2, 1) := by decide +kernel
theorem dX7_tall_49 : decode cX7_tall 49 = .ok (.if_icmp .ne 8, 3) := by decide +kernel
theorem dX7_tall_52 : decode cX7_tall 52 = .ok (.iload 5, 2) := by decide +kernel
theorem dX7_tall_54 : decode cX7_tall 54 = .ok (.goto 17, 3) := by decide +kernel
theorem dX7_tall_57 : decode cX7_tall 57 = .ok (.iload_n 3, 1) := by decide +kernel
theorem dX7_tall_58 : decode cX7_tall 58 = .ok (.iconst 5, 1) := by decide +kernel
theorem dX7_tall_59 : decode cX7_tall 59 = .ok (.if_icmp .ne 10, 3) := by decide +kernel
theorem dX7_tall_62 : decode cX7_tall 62 = .ok (.iload 5, 2) := by decide +kernel
theorem dX7_tall_64 : decode cX7_tall 64 = .ok (.iconst 2, 1) := by decide +kernel
theorem dX7_tall_65 : decode cX7_tall 65 = .ok (.idiv, 1) := by decide +kernel
theorem dX7_tall_66 : decode cX7_tall 66 = .ok (.goto 5, 3) := by decide +kernel
theorem dX7_tall_69 : decode cX7_tall 69 = .ok (.iload 4, 2) := by decide +kernel
theorem dX7_tall_71 : decode cX7_tall 71 = .ok (.ireturn, 1) := by decide +kernel
def rmX7_tall : Room := { frames := 2, cells := 0, slots := 0, locals := 45 }
abbrev eX7_tall := Ev cX7_tall 6 (some .int) RX7 rmX7_tall
set_option maxRecDepth 20000 in
theorem mt_X7_tall (p0 : Int32) (p1 : Int32) (σ : St) (Q : Int32 → Prop)  (hP : P_X7_tall p0 p1 σ Q) : Mt yX7_tall cX7_tall 6 (some .int) rmX7_tall [.ref (49), .int (p0), .int (p1)] σ (qI fun x s => s = σ ∧ Q x) := by
  refine Mt.of (k := 3) (ls := [.ref (49), .int (p0), .int (p1), un, un, un]) (by decide +kernel) rfl (Nat.le_of_ble_eq_true rfl) ?_
  show eX7_tall 0 [.ref (49), .int (p0), .int (p1), un, un, un] [] σ _
  unfold P_X7_tall at hP
  refine E_aload_n dX7_tall_0 rfl ?_
  refine E_iload_n dX7_tall_1 rfl ?_
  refine E_iload_n dX7_tall_2 rfl ?_
  refine E_iconst (v := 0) dX7_tall_3 (by decide) ?_
  refine E_callV (As := [.int (p0), .int (p1), .int (0)]) (rest := []) dX7_tall_4 cl_RX7_74 tw_470 (show kd 49 = 7 by decide) (by decide) rfl tw_471 ⟨rfl, rfl, Nat.le_of_ble_eq_true rfl, Nat.le_of_ble_eq_true rfl⟩ rfl rfl (Nat.le_of_ble_eq_true rfl) (mt_X7_its _ _ _ _ _  hP) ?_
  intro r0 s0 hq0; obtain ⟨r4, h0, hs0, hP⟩ := hq0; subst h0; rw [hs0]
  show eX7_tall 7 [.ref (49), .int (p0), .int (p1), un, un, un] [.int (r4)] σ _
  refine E_istore_n (ls' := [.ref (49), .int (p0), .int (p1), .int (r4), un, un]) dX7_tall_7 (by decide) rfl ?_
  refine E_aload_n dX7_tall_8 rfl ?_
  refine E_iload_n dX7_tall_9 rfl ?_
  refine E_iload_n dX7_tall_10 rfl ?_
  refine E_iconst (v := 1) dX7_tall_11 (by decide) ?_
  refine E_callV (As := [.int (p0), .int (p1), .int (1)]) (rest := []) dX7_tall_12 cl_RX7_74 tw_470 (show kd 49 = 7 by decide) (by decide) rfl tw_471 ⟨rfl, rfl, Nat.le_of_ble_eq_true rfl, Nat.le_of_ble_eq_true rfl⟩ rfl rfl (Nat.le_of_ble_eq_true rfl) (mt_X7_its _ _ _ _ _  hP) ?_
  intro r0 s0 hq0; obtain ⟨r12, h0, hs0, hP⟩ := hq0; subst h0; rw [hs0]
  show eX7_tall 15 [.ref (49), .int (p0), .int (p1), .int (r4), un, un] [.int (r12)] σ _
  refine E_istore (ls' := [.ref (49), .int (p0), .int (p1), .int (r4), .int (r12), un]) dX7_tall_15 (by decide) rfl ?_
  refine E_iload dX7_tall_17 rfl ?_
  refine E_aload_n dX7_tall_19 rfl ?_
  refine E_getR (j := 0) dX7_tall_20 (show kd 49 = 7 by decide) (by decide) rfl fd_RX7_7 (by decide) ?_
  refine E_bipush (v := 94) dX7_tall_23 (by decide) ?_
  refine E_iald dX7_tall_25 (ar_7_1 (show kd 49 = 7 by decide)).1 (ar_7_1 (show kd 49 = 7 by decide)).2 (vp_c (by decide)) ?_
  refine E_isub dX7_tall_26 ?_
  refine E_iconst (v := 1) dX7_tall_27 (by decide) ?_
  refine E_icmp_le 44 dX7_tall_28 (by decide) (fun hc => ?_) (fun hc => ?_)
  · replace hP := hP.1 hc
    refine E_iconst (v := 1) dX7_tall_44 (by decide) ?_
    refine E_istore (ls' := [.ref (49), .int (p0), .int (p1), .int (r4), .int (r12), .int (1)]) dX7_tall_45 (by decide) rfl ?_
    refine E_iload_n dX7_tall_47 rfl ?_
    refine E_iconst (v := 2) dX7_tall_48 (by decide) ?_
    refine E_icmp_ne 57 dX7_tall_49 (by decide) (fun hc => ?_) (fun hc => ?_)
    · replace hP := hP.1 hc
      refine E_iload_n dX7_tall_57 rfl ?_
      refine E_iconst (v := 5) dX7_tall_58 (by decide) ?_
      refine E_icmp_ne 69 dX7_tall_59 (by decide) (fun hc => ?_) (fun hc => ?_)
      · replace hP := hP.1 hc
        refine E_iload dX7_tall_69 rfl ?_
        exact E_iret dX7_tall_71 rfl ⟨_, rfl, rfl, hP⟩
      · replace hP := hP.2 hc
        refine E_iload dX7_tall_62 rfl ?_
        refine E_iconst (v := 2) dX7_tall_64 (by decide) ?_
        refine E_idiv dX7_tall_65 (by decide) ?_
        refine E_goto 71 dX7_tall_66 (by decide) ?_
        exact E_iret dX7_tall_71 rfl ⟨_, rfl, rfl, hP⟩
    · replace hP := hP.2 hc
      refine E_iload dX7_tall_52 rfl ?_
      refine E_goto 71 dX7_tall_54 (by decide) ?_
      exact E_iret dX7_tall_71 rfl ⟨_, rfl, rfl, hP⟩
  · replace hP := hP.2 hc
    refine E_iload dX7_tall_31 rfl ?_
    refine E_aload_n dX7_tall_33 rfl ?_
    refine E_getR (j := 0) dX7_tall_34 (show kd 49 = 7 by decide) (by decide) rfl fd_RX7_7 (by decide) ?_
    refine E_bipush (v := 94) dX7_tall_37 (by decide) ?_
    refine E_iald dX7_tall_39 (ar_7_1 (show kd 49 = 7 by decide)).1 (ar_7_1 (show kd 49 = 7 by decide)).2 (vp_c (by decide)) ?_
    refine E_isub dX7_tall_40 ?_
    refine E_goto 45 dX7_tall_41 (by decide) ?_
    refine E_istore (ls' := [.ref (49), .int (p0), .int (p1), .int (r4), .int (r12), .int (r12 - (gI σ 50 94))]) dX7_tall_45 (by decide) rfl ?_
    refine E_iload_n dX7_tall_47 rfl ?_
    refine E_iconst (v := 2) dX7_tall_48 (by decide) ?_
    refine E_icmp_ne 57 dX7_tall_49 (by decide) (fun hc => ?_) (fun hc => ?_)
    · replace hP := hP.1 hc
      refine E_iload_n dX7_tall_57 rfl ?_
      refine E_iconst (v := 5) dX7_tall_58 (by decide) ?_
      refine E_icmp_ne 69 dX7_tall_59 (by decide) (fun hc => ?_) (fun hc => ?_)
      · replace hP := hP.1 hc
        refine E_iload dX7_tall_69 rfl ?_
        exact E_iret dX7_tall_71 rfl ⟨_, rfl, rfl, hP⟩
      · replace hP := hP.2 hc
        refine E_iload dX7_tall_62 rfl ?_
        refine E_iconst (v := 2) dX7_tall_64 (by decide) ?_
        refine E_idiv dX7_tall_65 (by decide) ?_
        refine E_goto 71 dX7_tall_66 (by decide) ?_
        exact E_iret dX7_tall_71 rfl ⟨_, rfl, rfl, hP⟩
    · replace hP := hP.2 hc
      refine E_iload dX7_tall_52 rfl ?_
      refine E_goto 71 dX7_tall_54 (by decide) ?_
      exact E_iret dX7_tall_71 rfl ⟨_, rfl, rfl, hP⟩
theorem dX7_coin_0 : decode cX7_coin 0 = .ok (.aload_n 0, 1) := by decide +kernel
theorem dX7_coin_1 : decode cX7_coin 1 = .ok (.iload_n 1, 1) := by decide +kernel
theorem dX7_coin_2 : decode cX7_coin 2 = .ok (.iload_n 2, 1) := by decide +kernel
theorem dX7_coin_3 : decode cX7_coin 3 = .ok (.iconst 2, 1) := by decide +kernel
theorem dX7_coin_4 : decode cX7_coin 4 = .ok (.invokevirtual 74, 3) := by decide +kernel
theorem dX7_coin_7 : decode cX7_coin 7 = .ok (.istore_n 3, 1) := by decide +kernel
theorem dX7_coin_8 : decode cX7_coin 8 = .ok (.aload_n 0, 1) := by decide +kernel
theorem dX7_coin_9 : decode cX7_coin 9 = .ok (.iload_n 1, 1) := by decide +kernel
theorem dX7_coin_10 : decode cX7_coin 10 = .ok (.iload_n 2, 1) := by decide +kernel
theorem dX7_coin_11 : decode cX7_coin 11 = .ok (.iconst 0, 1) := by decide +kernel
theorem dX7_coin_12 : decode cX7_coin 12 = .ok (.invokevirtual 74, 3) := by decide +kernel
theorem dX7_coin_15 : decode cX7_coin 15 = .ok (.tableswitch 49 1 5 #[33, 43, 49, 37, 47], 33) := by decide +kernel
theorem dX7_coin_48 : decode cX7_coin 48 = .ok (.iload_n 3, 1) := by decide +kernel
theorem dX7_coin_49 : decode cX7_coin 49 = .ok (.iconst 5, 1) := by decide +kernel
theorem dX7_coin_50 : decode cX7_coin 50 = .ok (.iadd, 1) := by decide +kernel
theorem dX7_coin_51 : decode cX7_coin 51 = .ok (.ireturn, 1) := by decide +kernel
theorem dX7_coin_52 : decode cX7_coin 52 = .ok (.iconst 2, 1) := by decide +kernel
theorem dX7_coin_53 : decode cX7_coin 53 = .ok (.iload_n 3, 1) := by decide +kernel
theorem dX7_coin_54 : decode cX7_coin 54 = .ok (.iconst 5, 1) := by decide +kernel
theorem dX7_coin_55 : decode cX7_coin 55 = .ok (.iadd, 1) := by decide +kernel
theorem dX7_coin_56 : decode cX7_coin 56 = .ok (.imul, 1) := by decide +kernel
theorem dX7_coin_57 : decode cX7_coin 57 = .ok (.ireturn, 1) := by decide +kernel
theorem dX7_coin_58 : decode cX7_coin 58 = .ok (.iload_n 3, 1) := by decide +kernel
theorem dX7_coin_59 : decode cX7_coin 59 = .ok (.iconst 2, 1) := by decide +kernel
theorem dX7_coin_60 : decode cX7_coin 60 = .ok (.idiv, 1) := by decide +kernel
theorem dX7_coin_61 : decode cX7_coin 61 = .ok (.ireturn, 1) := by decide +kernel
theorem dX7_coin_62 : decode cX7_coin 62 = .ok (.iconst 0, 1) := by decide +kernel
theorem dX7_coin_63 : decode cX7_coin 63 = .ok (.ireturn, 1) := by decide +kernel
theorem dX7_coin_64 : decode cX7_coin 64 = .ok (.iload_n 3, 1) := by decide +kernel
theorem dX7_coin_65 : decode cX7_coin 65 = .ok (.ireturn, 1) := by decide +kernel
def rmX7_coin : Room := { frames := 2, cells := 0, slots := 0, locals := 45 }
abbrev eX7_coin := Ev cX7_coin 4 (some .int) RX7 rmX7_coin
set_option maxRecDepth 20000 in
theorem mt_X7_coin (p0 : Int32) (p1 : Int32) (σ : St) (Q : Int32 → Prop)  (hP : P_X7_coin p0 p1 σ Q) : Mt yX7_coin cX7_coin 4 (some .int) rmX7_coin [.ref (49), .int (p0), .int (p1)] σ (qI fun x s => s = σ ∧ Q x) := by
  refine Mt.of (k := 1) (ls := [.ref (49), .int (p0), .int (p1), un]) (by decide +kernel) rfl (Nat.le_of_ble_eq_true rfl) ?_
  show eX7_coin 0 [.ref (49), .int (p0), .int (p1), un] [] σ _
  unfold P_X7_coin at hP
  refine E_aload_n dX7_coin_0 rfl ?_
  refine E_iload_n dX7_coin_1 rfl ?_
  refine E_iload_n dX7_coin_2 rfl ?_
  refine E_iconst (v := 2) dX7_coin_3 (by decide) ?_
  refine E_callV (As := [.int (p0), .int (p1), .int (2)]) (rest := []) dX7_coin_4 cl_RX7_74 tw_470 (show kd 49 = 7 by decide) (by decide) rfl tw_471 ⟨rfl, rfl, Nat.le_of_ble_eq_true rfl, Nat.le_of_ble_eq_true rfl⟩ rfl rfl (Nat.le_of_ble_eq_true rfl) (mt_X7_its _ _ _ _ _  hP) ?_
  intro r0 s0 hq0; obtain ⟨r4, h0, hs0, hP⟩ := hq0; subst h0; rw [hs0]
  show eX7_coin 7 [.ref (49), .int (p0), .int (p1), un] [.int (r4)] σ _
  refine E_istore_n (ls' := [.ref (49), .int (p0), .int (p1), .int (r4)]) dX7_coin_7 (by decide) rfl ?_
  refine E_aload_n dX7_coin_8 rfl ?_
  refine E_iload_n dX7_coin_9 rfl ?_
  refine E_iload_n dX7_coin_10 rfl ?_
  refine E_iconst (v := 0) dX7_coin_11 (by decide) ?_
  refine E_callV (As := [.int (p0), .int (p1), .int (0)]) (rest := []) dX7_coin_12 cl_RX7_74 tw_470 (show kd 49 = 7 by decide) (by decide) rfl tw_471 ⟨rfl, rfl, Nat.le_of_ble_eq_true rfl, Nat.le_of_ble_eq_true rfl⟩ rfl rfl (Nat.le_of_ble_eq_true rfl) (mt_X7_its _ _ _ _ _  hP) ?_
  intro r0 s0 hq0; obtain ⟨r12, h0, hs0, hP⟩ := hq0; subst h0; rw [hs0]
  show eX7_coin 15 [.ref (49), .int (p0), .int (p1), .int (r4)] [.int (r12)] σ _
  refine E_tsw [(1, 48), (2, 58), (3, 64), (4, 52), (5, 62)] 64 dX7_coin_15 (by decide) (by decide) (by decide +kernel) (by decide +kernel) (List.forall_mem_cons.mpr ⟨fun hc => ?_, (List.forall_mem_cons.mpr ⟨fun hc => ?_, (List.forall_mem_cons.mpr ⟨fun hc => ?_, (List.forall_mem_cons.mpr ⟨fun hc => ?_, (List.forall_mem_cons.mpr ⟨fun hc => ?_, (fun q hq => absurd hq List.not_mem_nil)⟩)⟩)⟩)⟩)⟩) (fun hc => ?_)
  · replace hP := hP.1 hc
    refine E_iload_n dX7_coin_48 rfl ?_
    refine E_iconst (v := 5) dX7_coin_49 (by decide) ?_
    refine E_iadd dX7_coin_50 ?_
    exact E_iret dX7_coin_51 rfl ⟨_, rfl, rfl, hP⟩
  · replace hP := hP.2.1 hc
    refine E_iload_n dX7_coin_58 rfl ?_
    refine E_iconst (v := 2) dX7_coin_59 (by decide) ?_
    refine E_idiv dX7_coin_60 (by decide) ?_
    exact E_iret dX7_coin_61 rfl ⟨_, rfl, rfl, hP⟩
  · replace hP := hP.2.2.1 hc
    refine E_iload_n dX7_coin_64 rfl ?_
    exact E_iret dX7_coin_65 rfl ⟨_, rfl, rfl, hP⟩
  · replace hP := hP.2.2.2.1 hc
    refine E_iconst (v := 2) dX7_coin_52 (by decide) ?_
    refine E_iload_n dX7_coin_53 rfl ?_
    refine E_iconst (v := 5) dX7_coin_54 (by decide) ?_
    refine E_iadd dX7_coin_55 ?_
    refine E_imul dX7_coin_56 ?_
    exact E_iret dX7_coin_57 rfl ⟨_, rfl, rfl, hP⟩
  · replace hP := hP.2.2.2.2.1 hc
    refine E_iconst (v := 0) dX7_coin_62 (by decide) ?_
    exact E_iret dX7_coin_63 rfl ⟨_, rfl, rfl, hP⟩
  · replace hP := hP.2.2.2.2.2 ⟨hc (1, 48) (List.mem_of_getElem? (i := 0) rfl), hc (2, 58) (List.mem_of_getElem? (i := 1) rfl), hc (3, 64) (List.mem_of_getElem? (i := 2) rfl), hc (4, 52) (List.mem_of_getElem? (i := 3) rfl), hc (5, 62) (List.mem_of_getElem? (i := 4) rfl)⟩
    refine E_iload_n dX7_coin_64 rfl ?_
    exact E_iret dX7_coin_65 rfl ⟨_, rfl, rfl, hP⟩
theorem dX7_left_0 : decode cX7_left 0 = .ok (.iload_n 0, 1) := by decide +kernel
theorem dX7_left_1 : decode cX7_left 1 = .ok (.iconst 3, 1) := by decide +kernel
theorem dX7_left_2 : decode cX7_left 2 = .ok (.iload_n 1, 1) := by decide +kernel
theorem dX7_left_3 : decode cX7_left 3 = .ok (.imul, 1) := by decide +kernel
theorem dX7_left_4 : decode cX7_left 4 = .ok (.ishr, 1) := by decide +kernel
theorem dX7_left_5 : decode cX7_left 5 = .ok (.bipush 7, 2) := by decide +kernel
theorem dX7_left_7 : decode cX7_left 7 = .ok (.iand, 1) := by decide +kernel
theorem dX7_left_8 : decode cX7_left 8 = .ok (.ireturn, 1) := by decide +kernel
def rmX7_left : Room := { frames := 0, cells := 0, slots := 0, locals := 0 }
abbrev eX7_left := Ev cX7_left 2 (some .int) RX7 rmX7_left
set_option maxRecDepth 20000 in
theorem mt_X7_left (p0 : Int32) (p1 : Int32) (σ : St) (Q : Int32 → Prop)  (hP : P_X7_left p0 p1 σ Q) : Mt yX7_left cX7_left 2 (some .int) rmX7_left [.int (p0), .int (p1)] σ (qI fun x s => s = σ ∧ Q x) := by
  refine Mt.of (k := 0) (ls := [.int (p0), .int (p1)]) (by decide +kernel) rfl (Nat.le_of_ble_eq_true rfl) ?_
  show eX7_left 0 [.int (p0), .int (p1)] [] σ _
  unfold P_X7_left at hP
  refine E_iload_n dX7_left_0 rfl ?_
  refine E_iconst (v := 3) dX7_left_1 (by decide) ?_
  refine E_iload_n dX7_left_2 rfl ?_
  refine E_imul dX7_left_3 ?_
  refine E_ishr dX7_left_4 ?_
  refine E_bipush (v := 7) dX7_left_5 (by decide) ?_
  refine E_iand dX7_left_7 ?_
  exact E_iret dX7_left_8 rfl ⟨_, rfl, rfl, hP⟩
theorem dX7_mayGo_0 : decode cX7_mayGo 0 = .ok (.aload_n 0, 1) := by decide +kernel
theorem dX7_mayGo_1 : decode cX7_mayGo 1 = .ok (.iload_n 1, 1) := by decide +kernel
theorem dX7_mayGo_2 : decode cX7_mayGo 2 = .ok (.iload_n 2, 1) := by decide +kernel
theorem dX7_mayGo_3 : decode cX7_mayGo 3 = .ok (.iconst 0, 1) := by decide +kernel
theorem dX7_mayGo_4 : decode cX7_mayGo 4 = .ok (.invokevirtual 74, 3) := by decide +kernel
theorem dX7_mayGo_7 : decode cX7_mayGo 7 = .ok (.istore 4, 2) := by decide +kernel
theorem dX7_mayGo_9 : decode cX7_mayGo 9 = .ok (.iload_n 3, 1) := by decide +kernel
theorem dX7_mayGo_10 : decode cX7_mayGo 10 = .ok (.iload_n 1, 1) := by decide +kernel
theorem dX7_mayGo_11 : decode cX7_mayGo 11 = .ok (.invokestatic 77, 3) := by decide +kernel
theorem dX7_mayGo_14 : decode cX7_mayGo 14 = .ok (.istore 5, 2) := by decide +kernel
theorem dX7_mayGo_16 : decode cX7_mayGo 16 = .ok (.iload_n 1, 1) := by decide +kernel
theorem dX7_mayGo_17 : decode cX7_mayGo 17 = .ok (.ifCond .le 19, 3) := by decide +kernel
theorem dX7_mayGo_20 : decode cX7_mayGo 20 = .ok (.iload_n 3, 1) := by decide +kernel
theorem dX7_mayGo_21 : decode cX7_mayGo 21 = .ok (.iload_n 1, 1) := by decide +kernel
theorem dX7_mayGo_22 : decode cX7_mayGo 22 = .ok (.iconst 1, 1) := by decide +kernel
theorem dX7_mayGo_23 : decode cX7_mayGo 23 = .ok (.isub, 1) := by decide +kernel
theorem dX7_mayGo_24 : decode cX7_mayGo 24 = .ok (.invokestatic 77, 3) := by decide +kernel
theorem dX7_mayGo_27 : decode cX7_mayGo 27 = .ok (.iload 5, 2) := by decide +kernel
theorem dX7_mayGo_29 : decode cX7_mayGo 29 = .ok (.if_icmp .le 7, 3) := by decide +kernel
theorem dX7_mayGo_32 : decode cX7_mayGo 32 = .ok (.iconst 1, 1) := by decide +kernel
theorem dX7_mayGo_33 : decode cX7_mayGo 33 = .ok (.goto 4, 3) := by decide +kernel
theorem dX7_mayGo_36 : decode cX7_mayGo 36 = .ok (.iconst 0, 1) := by decide +kernel
theorem dX7_mayGo_37 : decode cX7_mayGo 37 = .ok (.istore 6, 2) := by decide +kernel
theorem dX7_mayGo_39 : decode cX7_mayGo 39 = .ok (.iload_n 1, 1) := by decide +kernel
theorem dX7_mayGo_40 : decode cX7_mayGo 40 = .ok (.iconst 3, 1) := by decide +kernel
theorem dX7_mayGo_41 : decode cX7_mayGo 41 = .ok (.if_icmp .ge 19, 3) := by decide +kernel
theorem dX7_mayGo_44 : decode cX7_mayGo 44 = .ok (.iload_n 3, 1) := by decide +kernel
theorem dX7_mayGo_45 : decode cX7_mayGo 45 = .ok (.iload_n 1, 1) := by decide +kernel
theorem dX7_mayGo_46 : decode cX7_mayGo 46 = .ok (.iconst 1, 1) := by decide +kernel
theorem dX7_mayGo_47 : decode cX7_mayGo 47 = .ok (.iadd, 1) := by decide +kernel
theorem dX7_mayGo_48 : decode cX7_mayGo 48 = .ok (.invokestatic 77, 3) := by decide +kernel
theorem dX7_mayGo_51 : decode cX7_mayGo 51 = .ok (.iload 5, 2) := by decide +kernel
theorem dX7_mayGo_53 : decode cX7_mayGo 53 = .ok (.if_icmp .le 7, 3) := by decide +kernel
theorem dX7_mayGo_56 : decode cX7_mayGo 56 = .ok (.iconst 1, 1) := by decide +kernel
theorem dX7_mayGo_57 : decode cX7_mayGo 57 = .ok (.goto 4, 3) := by decide +kernel
theorem dX7_mayGo_60 : decode cX7_mayGo 60 = .ok (.iconst 0, 1) := by decide +kernel
theorem dX7_mayGo_61 : decode cX7_mayGo 61 = .ok (.istore 7, 2) := by decide +kernel
theorem dX7_mayGo_63 : decode cX7_mayGo 63 = .ok (.iload 4, 2) := by decide +kernel
theorem dX7_mayGo_65 : decode cX7_mayGo 65 = .ok (.iconst 1, 1) := by decide +kernel
theorem dX7_mayGo_66 : decode cX7_mayGo 66 = .ok (.if_icmp .eq 9, 3) := by decide +kernel
theorem dX7_mayGo_69 : decode cX7_mayGo 69 = .ok (.iload 4, 2) := by decide +kernel
theorem dX7_mayGo_71 : decode cX7_mayGo 71 = .ok (.iconst 4, 1) := by decide +kernel
theorem dX7_mayGo_72 : decode cX7_mayGo 72 = .ok (.if_icmp .ne 21, 3) := by decide +kernel
theorem dX7_mayGo_75 : decode cX7_mayGo 75 = .ok (.iload 6, 2) := by decide +kernel
theorem dX7_mayGo_77 : decode cX7_mayGo 77 = .ok (.ifCond .ne 12, 3) := by decide +kernel
theorem dX7_mayGo_80 : decode cX7_mayGo 80 = .ok (.iload 7, 2) := by decide +kernel
theorem dX7_mayGo_82 : decode cX7_mayGo 82 = .ok (.ifCond .ne 7, 3) := by decide +kernel
theorem dX7_mayGo_85 : decode cX7_mayGo 85 = .ok (.iconst 1, 1) := by decide +kernel
theorem dX7_mayGo_86 : decode cX7_mayGo 86 = .ok (.goto 23, 3) := by decide +kernel
theorem dX7_mayGo_89 : decode cX7_mayGo 89 = .ok (.iconst 0, 1) := by decide +kernel
theorem dX7_mayGo_90 : decode cX7_mayGo 90 = .ok (.goto 19, 3) := by decide +kernel
theorem dX7_mayGo_93 : decode cX7_mayGo 93 = .ok (.iload 4, 2) := by decide +kernel
theorem dX7_mayGo_95 : decode cX7_mayGo 95 = .ok (.iconst 3, 1) := by decide +kernel
theorem dX7_mayGo_96 : decode cX7_mayGo 96 = .ok (.if_icmp .ne 8, 3) := by decide +kernel
theorem dX7_mayGo_99 : decode cX7_mayGo 99 = .ok (.iload 7, 2) := by decide +kernel
theorem dX7_mayGo_101 : decode cX7_mayGo 101 = .ok (.ifCond .ne 7, 3) := by decide +kernel
theorem dX7_mayGo_104 : decode cX7_mayGo 104 = .ok (.iconst 1, 1) := by decide +kernel
theorem dX7_mayGo_105 : decode cX7_mayGo 105 = .ok (.goto 4, 3) := by decide +kernel
theorem dX7_mayGo_108 : decode cX7_mayGo 108 = .ok (.iconst 0, 1) := by decide +kernel
theorem dX7_mayGo_109 : decode cX7_mayGo 109 = .ok (.ireturn, 1) := by decide +kernel
def rmX7_mayGo : Room := { frames := 2, cells := 0, slots := 0, locals := 45 }
abbrev eX7_mayGo := Ev cX7_mayGo 8 (some .boolean) RX7 rmX7_mayGo
set_option maxRecDepth 20000 in
theorem mt_X7_mayGo (p0 : Int32) (p1 : Int32) (p2 : Int32) (σ : St) (Q : Bool → Prop)  (hP : P_X7_mayGo p0 p1 p2 σ Q) : Mt yX7_mayGo cX7_mayGo 8 (some .boolean) rmX7_mayGo [.ref (49), .int (p0), .int (p1), .int (p2)] σ (qB fun x s => s = σ ∧ Q x) := by
  refine Mt.of (k := 4) (ls := [.ref (49), .int (p0), .int (p1), .int (p2), un, un, un, un]) (by decide +kernel) rfl (Nat.le_of_ble_eq_true rfl) ?_
  show eX7_mayGo 0 [.ref (49), .int (p0), .int (p1), .int (p2), un, un, un, un] [] σ _
  unfold P_X7_mayGo at hP
  refine E_aload_n dX7_mayGo_0 rfl ?_
  refine E_iload_n dX7_mayGo_1 rfl ?_
  refine E_iload_n dX7_mayGo_2 rfl ?_
  refine E_iconst (v := 0) dX7_mayGo_3 (by decide) ?_
  refine E_callV (As := [.int (p0), .int (p1), .int (0)]) (rest := []) dX7_mayGo_4 cl_RX7_74 tw_470 (show kd 49 = 7 by decide) (by decide) rfl tw_471 ⟨rfl, rfl, Nat.le_of_ble_eq_true rfl, Nat.le_of_ble_eq_true rfl⟩ rfl rfl (Nat.le_of_ble_eq_true rfl) (mt_X7_its _ _ _ _ _  hP) ?_
  intro r0 s0 hq0; obtain ⟨r4, h0, hs0, hP⟩ := hq0; subst h0; rw [hs0]
  show eX7_mayGo 7 [.ref (49), .int (p0), .int (p1), .int (p2), un, un, un, un] [.int (r4)] σ _
  refine E_istore (ls' := [.ref (49), .int (p0), .int (p1), .int (p2), .int (r4), un, un, un]) dX7_mayGo_7 (by decide) rfl ?_
  refine E_iload_n dX7_mayGo_9 rfl ?_
  refine E_iload_n dX7_mayGo_10 rfl ?_
  refine E_callS (As := [.int (p2), .int (p0)]) (rest := []) dX7_mayGo_11 cl_RX7_77 tw_474 ⟨rfl, rfl, Nat.le_of_ble_eq_true rfl, Nat.le_of_ble_eq_true rfl⟩ rfl rfl (Nat.le_of_ble_eq_true rfl) (mt_X7_left _ _ _ _  hP) ?_
  intro r0 s0 hq0; obtain ⟨r11, h0, hs0, hP⟩ := hq0; subst h0; rw [hs0]
  show eX7_mayGo 14 [.ref (49), .int (p0), .int (p1), .int (p2), .int (r4), un, un, un] [.int (r11)] σ _
  refine E_istore (ls' := [.ref (49), .int (p0), .int (p1), .int (p2), .int (r4), .int (r11), un, un]) dX7_mayGo_14 (by decide) rfl ?_
  refine E_iload_n dX7_mayGo_16 rfl ?_
  refine E_if_le 36 dX7_mayGo_17 (by decide) (fun hc => ?_) (fun hc => ?_)
  · replace hP := hP.1 hc
    refine E_iconst (v := 0) dX7_mayGo_36 (by decide) ?_
    refine E_istore (ls' := [.ref (49), .int (p0), .int (p1), .int (p2), .int (r4), .int (r11), .int (0), un]) dX7_mayGo_37 (by decide) rfl ?_
    refine E_iload_n dX7_mayGo_39 rfl ?_
    refine E_iconst (v := 3) dX7_mayGo_40 (by decide) ?_
    refine E_icmp_ge 60 dX7_mayGo_41 (by decide) (fun hc => ?_) (fun hc => ?_)
    · replace hP := hP.1 hc
      refine E_iconst (v := 0) dX7_mayGo_60 (by decide) ?_
      refine E_istore (ls' := [.ref (49), .int (p0), .int (p1), .int (p2), .int (r4), .int (r11), .int (0), .int (0)]) dX7_mayGo_61 (by decide) rfl ?_
      refine E_iload dX7_mayGo_63 rfl ?_
      refine E_iconst (v := 1) dX7_mayGo_65 (by decide) ?_
      refine E_icmp_eq 75 dX7_mayGo_66 (by decide) (fun hc => ?_) (fun hc => ?_)
      · replace hP := hP.1 hc
        refine E_iload dX7_mayGo_75 rfl ?_
        refine E_if_ne 89 dX7_mayGo_77 (by decide) (fun hc => absurd hc (by decide)) (fun _ => ?_)
        refine E_iload dX7_mayGo_80 rfl ?_
        refine E_if_ne 89 dX7_mayGo_82 (by decide) (fun hc => absurd hc (by decide)) (fun _ => ?_)
        refine E_iconst (v := 1) dX7_mayGo_85 (by decide) ?_
        refine E_goto 109 dX7_mayGo_86 (by decide) ?_
        exact E_nret dX7_mayGo_109 rfl (nar_b true) ⟨true, rfl, rfl, hP⟩
      · replace hP := hP.2 hc
        refine E_iload dX7_mayGo_69 rfl ?_
        refine E_iconst (v := 4) dX7_mayGo_71 (by decide) ?_
        refine E_icmp_ne 93 dX7_mayGo_72 (by decide) (fun hc => ?_) (fun hc => ?_)
        · replace hP := hP.1 hc
          refine E_iload dX7_mayGo_93 rfl ?_
          refine E_iconst (v := 3) dX7_mayGo_95 (by decide) ?_
          refine E_icmp_ne 104 dX7_mayGo_96 (by decide) (fun hc => ?_) (fun hc => ?_)
          · replace hP := hP.1 hc
            refine E_iconst (v := 1) dX7_mayGo_104 (by decide) ?_
            refine E_goto 109 dX7_mayGo_105 (by decide) ?_
            exact E_nret dX7_mayGo_109 rfl (nar_b true) ⟨true, rfl, rfl, hP⟩
          · replace hP := hP.2 hc
            refine E_iload dX7_mayGo_99 rfl ?_
            refine E_if_ne 108 dX7_mayGo_101 (by decide) (fun hc => absurd hc (by decide)) (fun _ => ?_)
            refine E_iconst (v := 1) dX7_mayGo_104 (by decide) ?_
            refine E_goto 109 dX7_mayGo_105 (by decide) ?_
            exact E_nret dX7_mayGo_109 rfl (nar_b true) ⟨true, rfl, rfl, hP⟩
        · replace hP := hP.2 hc
          refine E_iload dX7_mayGo_75 rfl ?_
          refine E_if_ne 89 dX7_mayGo_77 (by decide) (fun hc => absurd hc (by decide)) (fun _ => ?_)
          refine E_iload dX7_mayGo_80 rfl ?_
          refine E_if_ne 89 dX7_mayGo_82 (by decide) (fun hc => absurd hc (by decide)) (fun _ => ?_)
          refine E_iconst (v := 1) dX7_mayGo_85 (by decide) ?_
          refine E_goto 109 dX7_mayGo_86 (by decide) ?_
          exact E_nret dX7_mayGo_109 rfl (nar_b true) ⟨true, rfl, rfl, hP⟩
    · replace hP := hP.2 hc
      refine E_iload_n dX7_mayGo_44 rfl ?_
      refine E_iload_n dX7_mayGo_45 rfl ?_
      refine E_iconst (v := 1) dX7_mayGo_46 (by decide) ?_
      refine E_iadd dX7_mayGo_47 ?_
      refine E_callS (As := [.int (p2), .int (p0 + 1)]) (rest := []) dX7_mayGo_48 cl_RX7_77 tw_474 ⟨rfl, rfl, Nat.le_of_ble_eq_true rfl, Nat.le_of_ble_eq_true rfl⟩ rfl rfl (Nat.le_of_ble_eq_true rfl) (mt_X7_left _ _ _ _  hP) ?_
      intro r0 s0 hq0; obtain ⟨r48, h0, hs0, hP⟩ := hq0; subst h0; rw [hs0]
      show eX7_mayGo 51 [.ref (49), .int (p0), .int (p1), .int (p2), .int (r4), .int (r11), .int (0), un] [.int (r48)] σ _
      refine E_iload dX7_mayGo_51 rfl ?_
      refine E_icmp_le 60 dX7_mayGo_53 (by decide) (fun hc => ?_) (fun hc => ?_)
      · replace hP := hP.1 hc
        refine E_iconst (v := 0) dX7_mayGo_60 (by decide) ?_
        refine E_istore (ls' := [.ref (49), .int (p0), .int (p1), .int (p2), .int (r4), .int (r11), .int (0), .int (0)]) dX7_mayGo_61 (by decide) rfl ?_
        refine E_iload dX7_mayGo_63 rfl ?_
        refine E_iconst (v := 1) dX7_mayGo_65 (by decide) ?_
        refine E_icmp_eq 75 dX7_mayGo_66 (by decide) (fun hc => ?_) (fun hc => ?_)
        · replace hP := hP.1 hc
          refine E_iload dX7_mayGo_75 rfl ?_
          refine E_if_ne 89 dX7_mayGo_77 (by decide) (fun hc => absurd hc (by decide)) (fun _ => ?_)
          refine E_iload dX7_mayGo_80 rfl ?_
          refine E_if_ne 89 dX7_mayGo_82 (by decide) (fun hc => absurd hc (by decide)) (fun _ => ?_)
          refine E_iconst (v := 1) dX7_mayGo_85 (by decide) ?_
          refine E_goto 109 dX7_mayGo_86 (by decide) ?_
          exact E_nret dX7_mayGo_109 rfl (nar_b true) ⟨true, rfl, rfl, hP⟩
        · replace hP := hP.2 hc
          refine E_iload dX7_mayGo_69 rfl ?_
          refine E_iconst (v := 4) dX7_mayGo_71 (by decide) ?_
          refine E_icmp_ne 93 dX7_mayGo_72 (by decide) (fun hc => ?_) (fun hc => ?_)
          · replace hP := hP.1 hc
            refine E_iload dX7_mayGo_93 rfl ?_
            refine E_iconst (v := 3) dX7_mayGo_95 (by decide) ?_
            refine E_icmp_ne 104 dX7_mayGo_96 (by decide) (fun hc => ?_) (fun hc => ?_)
            · replace hP := hP.1 hc
              refine E_iconst (v := 1) dX7_mayGo_104 (by decide) ?_
              refine E_goto 109 dX7_mayGo_105 (by decide) ?_
              exact E_nret dX7_mayGo_109 rfl (nar_b true) ⟨true, rfl, rfl, hP⟩
            · replace hP := hP.2 hc
              refine E_iload dX7_mayGo_99 rfl ?_
              refine E_if_ne 108 dX7_mayGo_101 (by decide) (fun hc => absurd hc (by decide)) (fun _ => ?_)
              refine E_iconst (v := 1) dX7_mayGo_104 (by decide) ?_
              refine E_goto 109 dX7_mayGo_105 (by decide) ?_
              exact E_nret dX7_mayGo_109 rfl (nar_b true) ⟨true, rfl, rfl, hP⟩
          · replace hP := hP.2 hc
            refine E_iload dX7_mayGo_75 rfl ?_
            refine E_if_ne 89 dX7_mayGo_77 (by decide) (fun hc => absurd hc (by decide)) (fun _ => ?_)
            refine E_iload dX7_mayGo_80 rfl ?_
            refine E_if_ne 89 dX7_mayGo_82 (by decide) (fun hc => absurd hc (by decide)) (fun _ => ?_)
            refine E_iconst (v := 1) dX7_mayGo_85 (by decide) ?_
            refine E_goto 109 dX7_mayGo_86 (by decide) ?_
            exact E_nret dX7_mayGo_109 rfl (nar_b true) ⟨true, rfl, rfl, hP⟩
      · replace hP := hP.2 hc
        refine E_iconst (v := 1) dX7_mayGo_56 (by decide) ?_
        refine E_goto 61 dX7_mayGo_57 (by decide) ?_
        refine E_istore (ls' := [.ref (49), .int (p0), .int (p1), .int (p2), .int (r4), .int (r11), .int (0), .int (1)]) dX7_mayGo_61 (by decide) rfl ?_
        refine E_iload dX7_mayGo_63 rfl ?_
        refine E_iconst (v := 1) dX7_mayGo_65 (by decide) ?_
        refine E_icmp_eq 75 dX7_mayGo_66 (by decide) (fun hc => ?_) (fun hc => ?_)
        · replace hP := hP.1 hc
          refine E_iload dX7_mayGo_75 rfl ?_
          refine E_if_ne 89 dX7_mayGo_77 (by decide) (fun hc => absurd hc (by decide)) (fun _ => ?_)
          refine E_iload dX7_mayGo_80 rfl ?_
          refine E_if_ne 89 dX7_mayGo_82 (by decide) (fun _ => ?_) (fun hc => absurd hc (by decide))
          refine E_iconst (v := 0) dX7_mayGo_89 (by decide) ?_
          refine E_goto 109 dX7_mayGo_90 (by decide) ?_
          exact E_nret dX7_mayGo_109 rfl (nar_b false) ⟨false, rfl, rfl, hP⟩
        · replace hP := hP.2 hc
          refine E_iload dX7_mayGo_69 rfl ?_
          refine E_iconst (v := 4) dX7_mayGo_71 (by decide) ?_
          refine E_icmp_ne 93 dX7_mayGo_72 (by decide) (fun hc => ?_) (fun hc => ?_)
          · replace hP := hP.1 hc
            refine E_iload dX7_mayGo_93 rfl ?_
            refine E_iconst (v := 3) dX7_mayGo_95 (by decide) ?_
            refine E_icmp_ne 104 dX7_mayGo_96 (by decide) (fun hc => ?_) (fun hc => ?_)
            · replace hP := hP.1 hc
              refine E_iconst (v := 1) dX7_mayGo_104 (by decide) ?_
              refine E_goto 109 dX7_mayGo_105 (by decide) ?_
              exact E_nret dX7_mayGo_109 rfl (nar_b true) ⟨true, rfl, rfl, hP⟩
            · replace hP := hP.2 hc
              refine E_iload dX7_mayGo_99 rfl ?_
              refine E_if_ne 108 dX7_mayGo_101 (by decide) (fun _ => ?_) (fun hc => absurd hc (by decide))
              refine E_iconst (v := 0) dX7_mayGo_108 (by decide) ?_
              exact E_nret dX7_mayGo_109 rfl (nar_b false) ⟨false, rfl, rfl, hP⟩
          · replace hP := hP.2 hc
            refine E_iload dX7_mayGo_75 rfl ?_
            refine E_if_ne 89 dX7_mayGo_77 (by decide) (fun hc => absurd hc (by decide)) (fun _ => ?_)
            refine E_iload dX7_mayGo_80 rfl ?_
            refine E_if_ne 89 dX7_mayGo_82 (by decide) (fun _ => ?_) (fun hc => absurd hc (by decide))
            refine E_iconst (v := 0) dX7_mayGo_89 (by decide) ?_
            refine E_goto 109 dX7_mayGo_90 (by decide) ?_
            exact E_nret dX7_mayGo_109 rfl (nar_b false) ⟨false, rfl, rfl, hP⟩
  · replace hP := hP.2 hc
    refine E_iload_n dX7_mayGo_20 rfl ?_
    refine E_iload_n dX7_mayGo_21 rfl ?_
    refine E_iconst (v := 1) dX7_mayGo_22 (by decide) ?_
    refine E_isub dX7_mayGo_23 ?_
    refine E_callS (As := [.int (p2), .int (p0 - 1)]) (rest := []) dX7_mayGo_24 cl_RX7_77 tw_474 ⟨rfl, rfl, Nat.le_of_ble_eq_true rfl, Nat.le_of_ble_eq_true rfl⟩ rfl rfl (Nat.le_of_ble_eq_true rfl) (mt_X7_left _ _ _ _  hP) ?_
    intro r0 s0 hq0; obtain ⟨r24, h0, hs0, hP⟩ := hq0; subst h0; rw [hs0]
    show eX7_mayGo 27 [.ref (49), .int (p0), .int (p1), .int (p2), .int (r4), .int (r11), un, un] [.int (r24)] σ _
    refine E_iload dX7_mayGo_27 rfl ?_
    refine E_icmp_le 36 dX7_mayGo_29 (by decide) (fun hc => ?_) (fun hc => ?_)
    · replace hP := hP.1 hc
      refine E_iconst (v := 0) dX7_mayGo_36 (by decide) ?_
      refine E_istore (ls' := [.ref (49), .int (p0), .int (p1), .int (p2), .int (r4), .int (r11), .int (0), un]) dX7_mayGo_37 (by decide) rfl ?_
      refine E_iload_n dX7_mayGo_39 rfl ?_
      refine E_iconst (v := 3) dX7_mayGo_40 (by decide) ?_
      refine E_icmp_ge 60 dX7_mayGo_41 (by decide) (fun hc => ?_) (fun hc => ?_)
      · replace hP := hP.1 hc
        refine E_iconst (v := 0) dX7_mayGo_60 (by decide) ?_
        refine E_istore (ls' := [.ref (49), .int (p0), .int (p1), .int (p2), .int (r4), .int (r11), .int (0), .int (0)]) dX7_mayGo_61 (by decide) rfl ?_
        refine E_iload dX7_mayGo_63 rfl ?_
        refine E_iconst (v := 1) dX7_mayGo_65 (by decide) ?_
        refine E_icmp_eq 75 dX7_mayGo_66 (by decide) (fun hc => ?_) (fun hc => ?_)
        · replace hP := hP.1 hc
          refine E_iload dX7_mayGo_75 rfl ?_
          refine E_if_ne 89 dX7_mayGo_77 (by decide) (fun hc => absurd hc (by decide)) (fun _ => ?_)
          refine E_iload dX7_mayGo_80 rfl ?_
          refine E_if_ne 89 dX7_mayGo_82 (by decide) (fun hc => absurd hc (by decide)) (fun _ => ?_)
          refine E_iconst (v := 1) dX7_mayGo_85 (by decide) ?_
          refine E_goto 109 dX7_mayGo_86 (by decide) ?_
          exact E_nret dX7_mayGo_109 rfl (nar_b true) ⟨true, rfl, rfl, hP⟩
        · replace hP := hP.2 hc
          refine E_iload dX7_mayGo_69 rfl ?_
          refine E_iconst (v := 4) dX7_mayGo_71 (by decide) ?_
          refine E_icmp_ne 93 dX7_mayGo_72 (by decide) (fun hc => ?_) (fun hc => ?_)
          · replace hP := hP.1 hc
            refine E_iload dX7_mayGo_93 rfl ?_
            refine E_iconst (v := 3) dX7_mayGo_95 (by decide) ?_
            refine E_icmp_ne 104 dX7_mayGo_96 (by decide) (fun hc => ?_) (fun hc => ?_)
            · replace hP := hP.1 hc
              refine E_iconst (v := 1) dX7_mayGo_104 (by decide) ?_
              refine E_goto 109 dX7_mayGo_105 (by decide) ?_
              exact E_nret dX7_mayGo_109 rfl (nar_b true) ⟨true, rfl, rfl, hP⟩
            · replace hP := hP.2 hc
              refine E_iload dX7_mayGo_99 rfl ?_
              refine E_if_ne 108 dX7_mayGo_101 (by decide) (fun hc => absurd hc (by decide)) (fun _ => ?_)
              refine E_iconst (v := 1) dX7_mayGo_104 (by decide) ?_
              refine E_goto 109 dX7_mayGo_105 (by decide) ?_
              exact E_nret dX7_mayGo_109 rfl (nar_b true) ⟨true, rfl, rfl, hP⟩
          · replace hP := hP.2 hc
            refine E_iload dX7_mayGo_75 rfl ?_
            refine E_if_ne 89 dX7_mayGo_77 (by decide) (fun hc => absurd hc (by decide)) (fun _ => ?_)
            refine E_iload dX7_mayGo_80 rfl ?_
            refine E_if_ne 89 dX7_mayGo_82 (by decide) (fun hc => absurd hc (by decide)) (fun _ => ?_)
            refine E_iconst (v := 1) dX7_mayGo_85 (by decide) ?_
            refine E_goto 109 dX7_mayGo_86 (by decide) ?_
            exact E_nret dX7_mayGo_109 rfl (nar_b true) ⟨true, rfl, rfl, hP⟩
      · replace hP := hP.2 hc
        refine E_iload_n dX7_mayGo_44 rfl ?_
        refine E_iload_n dX7_mayGo_45 rfl ?_
        refine E_iconst (v := 1) dX7_mayGo_46 (by decide) ?_
        refine E_iadd dX7_mayGo_47 ?_
        refine E_callS (As := [.int (p2), .int (p0 + 1)]) (rest := []) dX7_mayGo_48 cl_RX7_77 tw_474 ⟨rfl, rfl, Nat.le_of_ble_eq_true rfl, Nat.le_of_ble_eq_true rfl⟩ rfl rfl (Nat.le_of_ble_eq_true rfl) (mt_X7_left _ _ _ _  hP) ?_
        intro r0 s0 hq0; obtain ⟨r48, h0, hs0, hP⟩ := hq0; subst h0; rw [hs0]
        show eX7_mayGo 51 [.ref (49), .int (p0), .int (p1), .int (p2), .int (r4), .int (r11), .int (0), un] [.int (r48)] σ _
        refine E_iload dX7_mayGo_51 rfl ?_
        refine E_icmp_le 60 dX7_mayGo_53 (by decide) (fun hc => ?_) (fun hc => ?_)
        · replace hP := hP.1 hc
          refine E_iconst (v := 0) dX7_mayGo_60 (by decide) ?_
          refine E_istore (ls' := [.ref (49), .int (p0), .int (p1), .int (p2), .int (r4), .int (r11), .int (0), .int (0)]) dX7_mayGo_61 (by decide) rfl ?_
          refine E_iload dX7_mayGo_63 rfl ?_
          refine E_iconst (v := 1) dX7_mayGo_65 (by decide) ?_
          refine E_icmp_eq 75 dX7_mayGo_66 (by decide) (fun hc => ?_) (fun hc => ?_)
          · replace hP := hP.1 hc
            refine E_iload dX7_mayGo_75 rfl ?_
            refine E_if_ne 89 dX7_mayGo_77 (by decide) (fun hc => absurd hc (by decide)) (fun _ => ?_)
            refine E_iload dX7_mayGo_80 rfl ?_
            refine E_if_ne 89 dX7_mayGo_82 (by decide) (fun hc => absurd hc (by decide)) (fun _ => ?_)
            refine E_iconst (v := 1) dX7_mayGo_85 (by decide) ?_
            refine E_goto 109 dX7_mayGo_86 (by decide) ?_
            exact E_nret dX7_mayGo_109 rfl (nar_b true) ⟨true, rfl, rfl, hP⟩
          · replace hP := hP.2 hc
            refine E_iload dX7_mayGo_69 rfl ?_
            refine E_iconst (v := 4) dX7_mayGo_71 (by decide) ?_
            refine E_icmp_ne 93 dX7_mayGo_72 (by decide) (fun hc => ?_) (fun hc => ?_)
            · replace hP := hP.1 hc
              refine E_iload dX7_mayGo_93 rfl ?_
              refine E_iconst (v := 3) dX7_mayGo_95 (by decide) ?_
              refine E_icmp_ne 104 dX7_mayGo_96 (by decide) (fun hc => ?_) (fun hc => ?_)
              · replace hP := hP.1 hc
                refine E_iconst (v := 1) dX7_mayGo_104 (by decide) ?_
                refine E_goto 109 dX7_mayGo_105 (by decide) ?_
                exact E_nret dX7_mayGo_109 rfl (nar_b true) ⟨true, rfl, rfl, hP⟩
              · replace hP := hP.2 hc
                refine E_iload dX7_mayGo_99 rfl ?_
                refine E_if_ne 108 dX7_mayGo_101 (by decide) (fun hc => absurd hc (by decide)) (fun _ => ?_)
                refine E_iconst (v := 1) dX7_mayGo_104 (by decide) ?_
                refine E_goto 109 dX7_mayGo_105 (by decide) ?_
                exact E_nret dX7_mayGo_109 rfl (nar_b true) ⟨true, rfl, rfl, hP⟩
            · replace hP := hP.2 hc
              refine E_iload dX7_mayGo_75 rfl ?_
              refine E_if_ne 89 dX7_mayGo_77 (by decide) (fun hc => absurd hc (by decide)) (fun _ => ?_)
              refine E_iload dX7_mayGo_80 rfl ?_
              refine E_if_ne 89 dX7_mayGo_82 (by decide) (fun hc => absurd hc (by decide)) (fun _ => ?_)
              refine E_iconst (v := 1) dX7_mayGo_85 (by decide) ?_
              refine E_goto 109 dX7_mayGo_86 (by decide) ?_
              exact E_nret dX7_mayGo_109 rfl (nar_b true) ⟨true, rfl, rfl, hP⟩
        · replace hP := hP.2 hc
          refine E_iconst (v := 1) dX7_mayGo_56 (by decide) ?_
          refine E_goto 61 dX7_mayGo_57 (by decide) ?_
          refine E_istore (ls' := [.ref (49), .int (p0), .int (p1), .int (p2), .int (r4), .int (r11), .int (0), .int (1)]) dX7_mayGo_61 (by decide) rfl ?_
          refine E_iload dX7_mayGo_63 rfl ?_
          refine E_iconst (v := 1) dX7_mayGo_65 (by decide) ?_
          refine E_icmp_eq 75 dX7_mayGo_66 (by decide) (fun hc => ?_) (fun hc => ?_)
          · replace hP := hP.1 hc
            refine E_iload dX7_mayGo_75 rfl ?_
            refine E_if_ne 89 dX7_mayGo_77 (by decide) (fun hc => absurd hc (by decide)) (fun _ => ?_)
            refine E_iload dX7_mayGo_80 rfl ?_
            refine E_if_ne 89 dX7_mayGo_82 (by decide) (fun _ => ?_) (fun hc => absurd hc (by decide))
            refine E_iconst (v := 0) dX7_mayGo_89 (by decide) ?_
            refine E_goto 109 dX7_mayGo_90 (by decide) ?_
            exact E_nret dX7_mayGo_109 rfl (nar_b false) ⟨false, rfl, rfl, hP⟩
          · replace hP := hP.2 hc
            refine E_iload dX7_mayGo_69 rfl ?_
            refine E_iconst (v := 4) dX7_mayGo_71 (by decide) ?_
            refine E_icmp_ne 93 dX7_mayGo_72 (by decide) (fun hc => ?_) (fun hc => ?_)
            · replace hP := hP.1 hc
              refine E_iload dX7_mayGo_93 rfl ?_
              refine E_iconst (v := 3) dX7_mayGo_95 (by decide) ?_
              refine E_icmp_ne 104 dX7_mayGo_96 (by decide) (fun hc => ?_) (fun hc => ?_)
              · replace hP := hP.1 hc
                refine E_iconst (v := 1) dX7_mayGo_104 (by decide) ?_
                refine E_goto 109 dX7_mayGo_105 (by decide) ?_
                exact E_nret dX7_mayGo_109 rfl (nar_b true) ⟨true, rfl, rfl, hP⟩
              · replace hP := hP.2 hc
                refine E_iload dX7_mayGo_99 rfl ?_
                refine E_if_ne 108 dX7_mayGo_101 (by decide) (fun _ => ?_) (fun hc => absurd hc (by decide))
                refine E_iconst (v := 0) dX7_mayGo_108 (by decide) ?_
                exact E_nret dX7_mayGo_109 rfl (nar_b false) ⟨false, rfl, rfl, hP⟩
            · replace hP := hP.2 hc
              refine E_iload dX7_mayGo_75 rfl ?_
              refine E_if_ne 89 dX7_mayGo_77 (by decide) (fun hc => absurd hc (by decide)) (fun _ => ?_)
              refine E_iload dX7_mayGo_80 rfl ?_
              refine E_if_ne 89 dX7_mayGo_82 (by decide) (fun _ => ?_) (fun hc => absurd hc (by decide))
              refine E_iconst (v := 0) dX7_mayGo_89 (by decide) ?_
              refine E_goto 109 dX7_mayGo_90 (by decide) ?_
              exact E_nret dX7_mayGo_109 rfl (nar_b false) ⟨false, rfl, rfl, hP⟩
    · replace hP := hP.2 hc
      refine E_iconst (v := 1) dX7_mayGo_32 (by decide) ?_
      refine E_goto 37 dX7_mayGo_33 (by decide) ?_
      refine E_istore (ls' := [.ref (49), .int (p0), .int (p1), .int (p2), .int (r4), .int (r11), .int (1), un]) dX7_mayGo_37 (by decide) rfl ?_
      refine E_iload_n dX7_mayGo_39 rfl ?_
      refine E_iconst (v := 3) dX7_mayGo_40 (by decide) ?_
      refine E_icmp_ge 60 dX7_mayGo_41 (by decide) (fun hc => ?_) (fun hc => ?_)
      · replace hP := hP.1 hc
        refine E_iconst (v := 0) dX7_mayGo_60 (by decide) ?_
        refine E_istore (ls' := [.ref (49), .int (p0), .int (p1), .int (p2), .int (r4), .int (r11), .int (1), .int (0)]) dX7_mayGo_61 (by decide) rfl ?_
        refine E_iload dX7_mayGo_63 rfl ?_
        refine E_iconst (v := 1) dX7_mayGo_65 (by decide) ?_
        refine E_icmp_eq 75 dX7_mayGo_66 (by decide) (fun hc => ?_) (fun hc => ?_)
        · replace hP := hP.1 hc
          refine E_iload dX7_mayGo_75 rfl ?_
          refine E_if_ne 89 dX7_mayGo_77 (by decide) (fun _ => ?_) (fun hc => absurd hc (by decide))
          refine E_iconst (v := 0) dX7_mayGo_89 (by decide) ?_
          refine E_goto 109 dX7_mayGo_90 (by decide) ?_
          exact E_nret dX7_mayGo_109 rfl (nar_b false) ⟨false, rfl, rfl, hP⟩
        · replace hP := hP.2 hc
          refine E_iload dX7_mayGo_69 rfl ?_
          refine E_iconst (v := 4) dX7_mayGo_71 (by decide) ?_
          refine E_icmp_ne 93 dX7_mayGo_72 (by decide) (fun hc => ?_) (fun hc => ?_)
          · replace hP := hP.1 hc
            refine E_iload dX7_mayGo_93 rfl ?_
            refine E_iconst (v := 3) dX7_mayGo_95 (by decide) ?_
            refine E_icmp_ne 104 dX7_mayGo_96 (by decide) (fun hc => ?_) (fun hc => ?_)
            · replace hP := hP.1 hc
              refine E_iconst (v := 1) dX7_mayGo_104 (by decide) ?_
              refine E_goto 109 dX7_mayGo_105 (by decide) ?_
              exact E_nret dX7_mayGo_109 rfl (nar_b true) ⟨true, rfl, rfl, hP⟩
            · replace hP := hP.2 hc
              refine E_iload dX7_mayGo_99 rfl ?_
              refine E_if_ne 108 dX7_mayGo_101 (by decide) (fun hc => absurd hc (by decide)) (fun _ => ?_)
              refine E_iconst (v := 1) dX7_mayGo_104 (by decide) ?_
              refine E_goto 109 dX7_mayGo_105 (by decide) ?_
              exact E_nret dX7_mayGo_109 rfl (nar_b true) ⟨true, rfl, rfl, hP⟩
          · replace hP := hP.2 hc
            refine E_iload dX7_mayGo_75 rfl ?_
            refine E_if_ne 89 dX7_mayGo_77 (by decide) (fun _ => ?_) (fun hc => absurd hc (by decide))
            refine E_iconst (v := 0) dX7_mayGo_89 (by decide) ?_
            refine E_goto 109 dX7_mayGo_90 (by decide) ?_
            exact E_nret dX7_mayGo_109 rfl (nar_b false) ⟨false, rfl, rfl, hP⟩
      · replace hP := hP.2 hc
        refine E_iload_n dX7_mayGo_44 rfl ?_
        refine E_iload_n dX7_mayGo_45 rfl ?_
        refine E_iconst (v := 1) dX7_mayGo_46 (by decide) ?_
        refine E_iadd dX7_mayGo_47 ?_
        refine E_callS (As := [.int (p2), .int (p0 + 1)]) (rest := []) dX7_mayGo_48 cl_RX7_77 tw_474 ⟨rfl, rfl, Nat.le_of_ble_eq_true rfl, Nat.le_of_ble_eq_true rfl⟩ rfl rfl (Nat.le_of_ble_eq_true rfl) (mt_X7_left _ _ _ _  hP) ?_
        intro r0 s0 hq0; obtain ⟨r48, h0, hs0, hP⟩ := hq0; subst h0; rw [hs0]
        show eX7_mayGo 51 [.ref (49), .int (p0), .int (p1), .int (p2), .int (r4), .int (r11), .int (1), un] [.int (r48)] σ _
        refine E_iload dX7_mayGo_51 rfl ?_
        refine E_icmp_le 60 dX7_mayGo_53 (by decide) (fun hc => ?_) (fun hc => ?_)
        · replace hP := hP.1 hc
          refine E_iconst (v := 0) dX7_mayGo_60 (by decide) ?_
          refine E_istore (ls' := [.ref (49), .int (p0), .int (p1), .int (p2), .int (r4), .int (r11), .int (1), .int (0)]) dX7_mayGo_61 (by decide) rfl ?_
          refine E_iload dX7_mayGo_63 rfl ?_
          refine E_iconst (v := 1) dX7_mayGo_65 (by decide) ?_
          refine E_icmp_eq 75 dX7_mayGo_66 (by decide) (fun hc => ?_) (fun hc => ?_)
          · replace hP := hP.1 hc
            refine E_iload dX7_mayGo_75 rfl ?_
            refine E_if_ne 89 dX7_mayGo_77 (by decide) (fun _ => ?_) (fun hc => absurd hc (by decide))
            refine E_iconst (v := 0) dX7_mayGo_89 (by decide) ?_
            refine E_goto 109 dX7_mayGo_90 (by decide) ?_
            exact E_nret dX7_mayGo_109 rfl (nar_b false) ⟨false, rfl, rfl, hP⟩
          · replace hP := hP.2 hc
            refine E_iload dX7_mayGo_69 rfl ?_
            refine E_iconst (v := 4) dX7_mayGo_71 (by decide) ?_
            refine E_icmp_ne 93 dX7_mayGo_72 (by decide) (fun hc => ?_) (fun hc => ?_)
            · replace hP := hP.1 hc
              refine E_iload dX7_mayGo_93 rfl ?_
              refine E_iconst (v := 3) dX7_mayGo_95 (by decide) ?_
              refine E_icmp_ne 104 dX7_mayGo_96 (by decide) (fun hc => ?_) (fun hc => ?_)
              · replace hP := hP.1 hc
                refine E_iconst (v := 1) dX7_mayGo_104 (by decide) ?_
                refine E_goto 109 dX7_mayGo_105 (by decide) ?_
                exact E_nret dX7_mayGo_109 rfl (nar_b true) ⟨true, rfl, rfl, hP⟩
              · replace hP := hP.2 hc
                refine E_iload dX7_mayGo_99 rfl ?_
                refine E_if_ne 108 dX7_mayGo_101 (by decide) (fun hc => absurd hc (by decide)) (fun _ => ?_)
                refine E_iconst (v := 1) dX7_mayGo_104 (by decide) ?_
                refine E_goto 109 dX7_mayGo_105 (by decide) ?_
                exact E_nret dX7_mayGo_109 rfl (nar_b true) ⟨true, rfl, rfl, hP⟩
            · replace hP := hP.2 hc
              refine E_iload dX7_mayGo_75 rfl ?_
              refine E_if_ne 89 dX7_mayGo_77 (by decide) (fun _ => ?_) (fun hc => absurd hc (by decide))
              refine E_iconst (v := 0) dX7_mayGo_89 (by decide) ?_
              refine E_goto 109 dX7_mayGo_90 (by decide) ?_
              exact E_nret dX7_mayGo_109 rfl (nar_b false) ⟨false, rfl, rfl, hP⟩
        · replace hP := hP.2 hc
          refine E_iconst (v := 1) dX7_mayGo_56 (by decide) ?_
          refine E_goto 61 dX7_mayGo_57 (by decide) ?_
          refine E_istore (ls' := [.ref (49), .int (p0), .int (p1), .int (p2), .int (r4), .int (r11), .int (1), .int (1)]) dX7_mayGo_61 (by decide) rfl ?_
          refine E_iload dX7_mayGo_63 rfl ?_
          refine E_iconst (v := 1) dX7_mayGo_65 (by decide) ?_
          refine E_icmp_eq 75 dX7_mayGo_66 (by decide) (fun hc => ?_) (fun hc => ?_)
          · replace hP := hP.1 hc
            refine E_iload dX7_mayGo_75 rfl ?_
            refine E_if_ne 89 dX7_mayGo_77 (by decide) (fun _ => ?_) (fun hc => absurd hc (by decide))
            refine E_iconst (v := 0) dX7_mayGo_89 (by decide) ?_
            refine E_goto 109 dX7_mayGo_90 (by decide) ?_
            exact E_nret dX7_mayGo_109 rfl (nar_b false) ⟨false, rfl, rfl, hP⟩
          · replace hP := hP.2 hc
            refine E_iload dX7_mayGo_69 rfl ?_
            refine E_iconst (v := 4) dX7_mayGo_71 (by decide) ?_
            refine E_icmp_ne 93 dX7_mayGo_72 (by decide) (fun hc => ?_) (fun hc => ?_)
            · replace hP := hP.1 hc
              refine E_iload dX7_mayGo_93 rfl ?_
              refine E_iconst (v := 3) dX7_mayGo_95 (by decide) ?_
              refine E_icmp_ne 104 dX7_mayGo_96 (by decide) (fun hc => ?_) (fun hc => ?_)
              · replace hP := hP.1 hc
                refine E_iconst (v := 1) dX7_mayGo_104 (by decide) ?_
                refine E_goto 109 dX7_mayGo_105 (by decide) ?_
                exact E_nret dX7_mayGo_109 rfl (nar_b true) ⟨true, rfl, rfl, hP⟩
              · replace hP := hP.2 hc
                refine E_iload dX7_mayGo_99 rfl ?_
                refine E_if_ne 108 dX7_mayGo_101 (by decide) (fun _ => ?_) (fun hc => absurd hc (by decide))
                refine E_iconst (v := 0) dX7_mayGo_108 (by decide) ?_
                exact E_nret dX7_mayGo_109 rfl (nar_b false) ⟨false, rfl, rfl, hP⟩
            · replace hP := hP.2 hc
              refine E_iload dX7_mayGo_75 rfl ?_
              refine E_if_ne 89 dX7_mayGo_77 (by decide) (fun _ => ?_) (fun hc => absurd hc (by decide))
              refine E_iconst (v := 0) dX7_mayGo_89 (by decide) ?_
              refine E_goto 109 dX7_mayGo_90 (by decide) ?_
              exact E_nret dX7_mayGo_109 rfl (nar_b false) ⟨false, rfl, rfl, hP⟩
theorem dX7_standNow_0 : decode cX7_standNow 0 = .ok (.iconst 0, 1) := by decide +kernel
theorem dX7_standNow_1 : decode cX7_standNow 1 = .ok (.istore_n 1, 1) := by decide +kernel
theorem dX7_standNow_2 : decode cX7_standNow 2 = .ok (.iconst 0, 1) := by decide +kernel
theorem dX7_standNow_3 : decode cX7_standNow 3 = .ok (.istore_n 2, 1) := by decide +kernel
theorem dX7_standNow_4 : decode cX7_standNow 4 = .ok (.iload_n 2, 1) := by decide +kernel
theorem dX7_standNow_5 : decode cX7_standNow 5 = .ok (.iconst 4, 1) := by decide +kernel
theorem dX7_standNow_6 : decode cX7_standNow 6 = .ok (.if_icmp .ge 21, 3) := by decide +kernel
theorem dX7_standNow_9 : decode cX7_standNow 9 = .ok (.iload_n 1, 1) := by decide +kernel
theorem dX7_standNow_10 : decode cX7_standNow 10 = .ok (.aload_n 0, 1) := by decide +kernel
theorem dX7_standNow_11 : decode cX7_standNow 11 = .ok (.iload_n 2, 1) := by decide +kernel
theorem dX7_standNow_12 : decode cX7_standNow 12 = .ok (.invokevirtual 66, 3) := by decide +kernel
theorem dX7_standNow_15 : decode cX7_standNow 15 = .ok (.iconst 3, 1) := by decide +kernel
theorem dX7_standNow_16 : decode cX7_standNow 16 = .ok (.iload_n 2, 1) := by decide +kernel
theorem dX7_standNow_17 : decode cX7_standNow 17 = .ok (.imul, 1) := by decide +kernel
theorem dX7_standNow_18 : decode cX7_standNow 18 = .ok (.ishl, 1) := by decide +kernel
theorem dX7_standNow_19 : decode cX7_standNow 19 = .ok (.ior, 1) := by decide +kernel
theorem dX7_standNow_20 : decode cX7_standNow 20 = .ok (.istore_n 1, 1) := by decide +kernel
theorem dX7_standNow_21 : decode cX7_standNow 21 = .ok (.iinc 2 1, 3) := by decide +kernel
theorem dX7_standNow_24 : decode cX7_standNow 24 = .ok (.goto (-20), 3) := by decide +kernel
theorem dX7_standNow_27 : decode cX7_standNow 27 = .ok (.iload_n 1, 1) := by decide +kernel
theorem dX7_standNow_28 : decode cX7_standNow 28 = .ok (.ireturn, 1) := by decide +kernel
def rmX7_standNow : Room := { frames := 1, cells := 0, slots := 0, locals := 21 }
abbrev eX7_standNow := Ev cX7_standNow 3 (some .int) RX7 rmX7_standNow
set_option maxRecDepth 20000 in
theorem ev_X7_standNow_l4   (K : Int32 → St → Prop) (Q : Int32 → Prop) (σ0 : St) (hK : ∀ k1 s, K k1 s → s = σ0 → eX7_standNow 27 [un, .int (k1), un] [] s (qI fun x s => s = σ0 ∧ Q x)) : ∀ (n : Nat) (l1 : Int32) (l2 : Int32) (σ : St), σ = σ0 → P_X7_standNow_l4  K Q n l1 l2 σ → eX7_standNow 4 [.ref (49), .int (l1), .int (l2)] [] σ (qI fun x s => s = σ0 ∧ Q x) := by
  intro n
  induction n with
  | zero => intro l1 l2 σ hs hP; exact hP.elim
  | succ n ih =>
    intro l1 l2 σ hs hP
    subst hs
    rw [P_X7_standNow_l4] at hP
    refine E_iload_n dX7_standNow_4 rfl ?_
    refine E_iconst (v := 4) dX7_standNow_5 (by decide) ?_
    refine E_icmp_ge 27 dX7_standNow_6 (by decide) (fun hc => ?_) (fun hc => ?_)
    · replace hP := hP.1 hc
      refine E_mask [false, true, false] rfl ?_
      exact hK (l1) _ hP rfl
    · replace hP := hP.2 hc
      refine E_iload_n dX7_standNow_9 rfl ?_
      refine E_aload_n dX7_standNow_10 rfl ?_
      refine E_iload_n dX7_standNow_11 rfl ?_
      refine E_callV (As := [.int (l2)]) (rest := [.int (l1)]) dX7_standNow_12 cl_RX7_66 tw_460 (show kd 49 = 7 by decide) (by decide) rfl tw_461 ⟨rfl, rfl, Nat.le_of_ble_eq_true rfl, Nat.le_of_ble_eq_true rfl⟩ rfl rfl (Nat.le_of_ble_eq_true rfl) (mt_X7_many _ _ _  hP) ?_
      intro r0 s0 hq0; obtain ⟨r12, h0, hs0, hP⟩ := hq0; subst h0; rw [hs0]
      show eX7_standNow 15 [.ref (49), .int (l1), .int (l2)] [.int (r12), .int (l1)] σ _
      refine E_iconst (v := 3) dX7_standNow_15 (by decide) ?_
      refine E_iload_n dX7_standNow_16 rfl ?_
      refine E_imul dX7_standNow_17 ?_
      refine E_ishl dX7_standNow_18 ?_
      refine E_ior dX7_standNow_19 ?_
      refine E_istore_n (ls' := [.ref (49), .int (l1 ||| (r12 <<< ((3 * l2) &&& 31))), .int (l2)]) dX7_standNow_20 (by decide) rfl ?_
      refine E_iinc (ls' := [.ref (49), .int (l1 ||| (r12 <<< ((3 * l2) &&& 31))), .int (l2 + 1)]) dX7_standNow_21 rfl rfl (by decide) rfl ?_
      refine E_goto 4 dX7_standNow_24 (by decide) ?_
      exact ih (l1 ||| (r12 <<< ((3 * l2) &&& 31))) (l2 + 1) _ rfl hP
set_option maxRecDepth 20000 in
theorem mt_X7_standNow  (σ : St) (Q : Int32 → Prop)  (hP : P_X7_standNow  σ Q) : Mt yX7_standNow cX7_standNow 3 (some .int) rmX7_standNow [.ref (49)] σ (qI fun x s => s = σ ∧ Q x) := by
  refine Mt.of (k := 2) (ls := [.ref (49), un, un]) (by decide +kernel) rfl (Nat.le_of_ble_eq_true rfl) ?_
  show eX7_standNow 0 [.ref (49), un, un] [] σ _
  unfold P_X7_standNow at hP
  refine E_iconst (v := 0) dX7_standNow_0 (by decide) ?_
  refine E_istore_n (ls' := [.ref (49), .int (0), un]) dX7_standNow_1 (by decide) rfl ?_
  refine E_iconst (v := 0) dX7_standNow_2 (by decide) ?_
  refine E_istore_n (ls' := [.ref (49), .int (0), .int (0)]) dX7_standNow_3 (by decide) rfl ?_
  obtain ⟨m4, hP⟩ := hP
  refine ev_X7_standNow_l4   _ Q σ ?_ m4 _ _ _ rfl hP
  intro k1 t27 hP hs
  rw [hs]
  refine E_iload_n dX7_standNow_27 rfl ?_
  exact E_iret dX7_standNow_28 rfl ⟨_, rfl, rfl, hP⟩
theorem dX7_stones_0 : decode cX7_stones 0 = .ok (.iload_n 0, 1) := by decide +kernel
theorem dX7_stones_1 : decode cX7_stones 1 = .ok (.iconst 0, 1) := by decide +kernel
theorem dX7_stones_2 : decode cX7_stones 2 = .ok (.invokestatic 77, 3) := by decide +kernel
theorem dX7_stones_5 : decode cX7_stones 5 = .ok (.iload_n 0, 1) := by decide +kernel
theorem dX7_stones_6 : decode cX7_stones 6 = .ok (.iconst 1, 1) := by decide +kernel
theorem dX7_stones_7 : decode cX7_stones 7 = .ok (.invokestatic 77, 3) := by decide +kernel
theorem dX7_stones_10 : decode cX7_stones 10 = .ok (.iadd, 1) := by decide +kernel
theorem dX7_stones_11 : decode cX7_stones 11 = .ok (.iload_n 0, 1) := by decide +kernel
theorem dX7_stones_12 : decode cX7_stones 12 = .ok (.iconst 2, 1) := by decide +kernel
theorem dX7_stones_13 : decode cX7_stones 13 = .ok (.invokestatic 77, 3) := by decide +kernel
theorem dX7_stones_16 : decode cX7_stones 16 = .ok (.iadd, 1) := by decide +kernel
theorem dX7_stones_17 : decode cX7_stones 17 = .ok (.iload_n 0, 1) := by decide +kernel
theorem dX7_stones_18 : decode cX7_stones 18 = .ok (.iconst 3, 1) := by decide +kernel
theorem dX7_stones_19 : decode cX7_stones 19 = .ok (.invokestatic 77, 3) := by decide +kernel
theorem dX7_stones_22 : decode cX7_stones 22 = .ok (.iadd, 1) := by decide +kernel
theorem dX7_stones_23 : decode cX7_stones 23 = .ok (.ireturn, 1) := by decide +kernel
def rmX7_stones : Room := { frames := 1, cells := 0, slots := 0, locals := 21 }
abbrev eX7_stones := Ev cX7_stones 1 (some .int) RX7 rmX7_stones
set_option maxRecDepth 20000 in
theorem mt_X7_stones (p0 : Int32) (σ : St) (Q : Int32 → Prop)  (hP : P_X7_stones p0 σ Q) : Mt yX7_stones cX7_stones 1 (some .int) rmX7_stones [.int (p0)] σ (qI fun x s => s = σ ∧ Q x) := by
  refine Mt.of (k := 0) (ls := [.int (p0)]) (by decide +kernel) rfl (Nat.le_of_ble_eq_true rfl) ?_
  show eX7_stones 0 [.int (p0)] [] σ _
  unfold P_X7_stones at hP
  refine E_iload_n dX7_stones_0 rfl ?_
  refine E_iconst (v := 0) dX7_stones_1 (by decide) ?_
  refine E_callS (As := [.int (p0), .int (0)]) (rest := []) dX7_stones_2 cl_RX7_77 tw_474 ⟨rfl, rfl, Nat.le_of_ble_eq_true rfl, Nat.le_of_ble_eq_true rfl⟩ rfl rfl (Nat.le_of_ble_eq_true rfl) (mt_X7_left _ _ _ _  hP) ?_
  intro r0 s0 hq0; obtain ⟨r2, h0, hs0, hP⟩ := hq0; subst h0; rw [hs0]
  show eX7_stones 5 [.int (p0)] [.int (r2)] σ _
  refine E_iload_n dX7_stones_5 rfl ?_
  refine E_iconst (v := 1) dX7_stones_6 (by decide) ?_
  refine E_callS (As := [.int (p0), .int (1)]) (rest := [.int (r2)]) dX7_stones_7 cl_RX7_77 tw_474 ⟨rfl, rfl, Nat.le_of_ble_eq_true rfl, Nat.le_of_ble_eq_true rfl⟩ rfl rfl (Nat.le_of_ble_eq_true rfl) (mt_X7_left _ _ _ _  hP) ?_
  intro r0 s0 hq0; obtain ⟨r7, h0, hs0, hP⟩ := hq0; subst h0; rw [hs0]
  show eX7_stones 10 [.int (p0)] [.int (r7), .int (r2)] σ _
  refine E_iadd dX7_stones_10 ?_
  refine E_iload_n dX7_stones_11 rfl ?_
  refine E_iconst (v := 2) dX7_stones_12 (by decide) ?_
  refine E_callS (As := [.int (p0), .int (2)]) (rest := [.int (r2 + r7)]) dX7_stones_13 cl_RX7_77 tw_474 ⟨rfl, rfl, Nat.le_of_ble_eq_true rfl, Nat.le_of_ble_eq_true rfl⟩ rfl rfl (Nat.le_of_ble_eq_true rfl) (mt_X7_left _ _ _ _  hP) ?_
  intro r0 s0 hq0; obtain ⟨r13, h0, hs0, hP⟩ := hq0; subst h0; rw [hs0]
  show eX7_stones 16 [.int (p0)] [.int (r13), .int (r2 + r7)] σ _
  refine E_iadd dX7_stones_16 ?_
  refine E_iload_n dX7_stones_17 rfl ?_
  refine E_iconst (v := 3) dX7_stones_18 (by decide) ?_
  refine E_callS (As := [.int (p0), .int (3)]) (rest := [.int ((r2 + r7) + r13)]) dX7_stones_19 cl_RX7_77 tw_474 ⟨rfl, rfl, Nat.le_of_ble_eq_true rfl, Nat.le_of_ble_eq_true rfl⟩ rfl rfl (Nat.le_of_ble_eq_true rfl) (mt_X7_left _ _ _ _  hP) ?_
  intro r0 s0 hq0; obtain ⟨r19, h0, hs0, hP⟩ := hq0; subst h0; rw [hs0]
  show eX7_stones 22 [.int (p0)] [.int (r19), .int ((r2 + r7) + r13)] σ _
  refine E_iadd dX7_stones_22 ?_
  exact E_iret dX7_stones_23 rfl ⟨_, rfl, rfl, hP⟩
theorem dX7_findTops_0 : decode cX7_findTops 0 = .ok (.iconst 0, 1) := by decide +kernel
theorem dX7_findTops_1 : decode cX7_findTops 1 = .ok (.istore_n 1, 1) := by decide +kernel
theorem dX7_findTops_2 : decode cX7_findTops 2 = .ok (.iload_n 1, 1) := by decide +kernel
theorem dX7_findTops_3 : decode cX7_findTops 3 = .ok (.iconst 4, 1) := by decide +kernel
theorem dX7_findTops_4 : decode cX7_findTops 4 = .ok (.if_icmp .ge 142, 3) := by decide +kernel
theorem dX7_findTops_7 : decode cX7_findTops 7 = .ok (.aload_n 0, 1) := by decide +kernel
theorem dX7_findTops_8 : decode cX7_findTops 8 = .ok (.iload_n 1, 1) := by decide +kernel
theorem dX7_findTops_9 : decode cX7_findTops 9 = .ok (.invokevirtual 66, 3) := by decide +kernel
theorem dX7_findTops_12 : decode cX7_findTops 12 = .ok (.istore_n 2, 1) := by decide +kernel
theorem dX7_findTops_13 : decode cX7_findTops 13 = .ok (.aload_n 0, 1) := by decide +kernel
theorem dX7_findTops_14 : decode cX7_findTops 14 = .ok (.getfield 16, 3) := by decide +kernel
theorem dX7_findTops_17 : decode cX7_findTops 17 = .ok (.bipush 8, 2) := by decide +kernel
theorem dX7_findTops_19 : decode cX7_findTops 19 = .ok (.iload_n 1, 1) := by decide +kernel
theorem dX7_findTops_20 : decode cX7_findTops 20 = .ok (.imul, 1) := by decide +kernel
theorem dX7_findTops_21 : decode cX7_findTops 21 = .ok (.aload_n 0, 1) := by decide +kernel
theorem dX7_findTops_22 : decode cX7_findTops 22 = .ok (.getfield 7, 3) := by decide +kernel
theorem dX7_findTops_25 : decode cX7_findTops 25 = .ok (.bipush 23, 2) := by decide +kernel
theorem dX7_findTops_27 : decode cX7_findTops 27 = .ok (.iload_n 1, 1) := by decide +kernel
theorem dX7_findTops_28 : decode cX7_findTops 28 = .ok (.imul, 1) := by decide +kernel
theorem dX7_findTops_29 : decode cX7_findTops 29 = .ok (.iconst 1, 1) := by decide +kernel
theorem dX7_findTops_30 : decode cX7_findTops 30 = .ok (.iadd, 1) := by decide +kernel
theorem dX7_findTops_31 : decode cX7_findTops 31 = .ok (.iaload, 1) := by decide +kernel
theorem dX7_findTops_32 : decode cX7_findTops 32 = .ok (.iastore, 1) := by decide +kernel
theorem dX7_findTops_33 : decode cX7_findTops 33 = .ok (.iconst 1, 1) := by decide +kernel
theorem dX7_findTops_34 : decode cX7_findTops 34 = .ok (.istore_n 3, 1) := by decide +kernel
theorem dX7_findTops_35 : decode cX7_findTops 35 = .ok (.iload_n 3, 1) := by decide +kernel
theorem dX7_findTops_36 : decode cX7_findTops 36 = .ok (.iload_n 2, 1) := by decide +kernel
theorem dX7_findTops_37 : decode cX7_findTops 37 = .ok (.if_icmp .gt 42, 3) := by decide +kernel
theorem dX7_findTops_40 : decode cX7_findTops 40 = .ok (.aload_n 0, 1) := by decide +kernel
theorem dX7_findTops_41 : decode cX7_findTops 41 = .ok (.getfield 16, 3) := by decide +kernel
theorem dX7_findTops_44 : decode cX7_findTops 44 = .ok (.bipush 8, 2) := by decide +kernel
theorem dX7_findTops_46 : decode cX7_findTops 46 = .ok (.iload_n 1, 1) := by decide +kernel
theorem dX7_findTops_47 : decode cX7_findTops 47 = .ok (.imul, 1) := by decide +kernel
theorem dX7_findTops_48 : decode cX7_findTops 48 = .ok (.iload_n 3, 1) := by decide +kernel
theorem dX7_findTops_49 : decode cX7_findTops 49 = .ok (.iadd, 1) := by decide +kernel
theorem dX7_findTops_50 : decode cX7_findTops 50 = .ok (.aload_n 0, 1) := by decide +kernel
theorem dX7_findTops_51 : decode cX7_findTops 51 = .ok (.getfield 16, 3) := by decide +kernel
theorem dX7_findTops_54 : decode cX7_findTops 54 = .ok (.bipush 8, 2) := by decide +kernel
theorem dX7_findTops_56 : decode cX7_findTops 56 = .ok (.iload_n 1, 1) := by decide +kernel
theorem dX7_findTops_57 : decode cX7_findTops 57 = .ok (.imul, 1) := by decide +kernel
theorem dX7_findTops_58 : decode cX7_findTops 58 = .ok (.iload_n 3, 1) := by decide +kernel
theorem dX7_findTops_59 : decode cX7_findTops 59 = .ok (.iadd, 1) := by decide +kernel
theorem dX7_findTops_60 : decode cX7_findTops 60 = .ok (.iconst 1, 1) := by decide +kernel
theorem dX7_findTops_61 : decode cX7_findTops 61 = .ok (.isub, 1) := by decide +kernel
theorem dX7_findTops_62 : decode cX7_findTops 62 = .ok (.iaload, 1) := by decide +kernel
theorem dX7_findTops_63 : decode cX7_findTops 63 = .ok (.aload_n 0, 1) := by decide +kernel
theorem dX7_findTops_64 : decode cX7_findTops 64 = .ok (.iload_n 1, 1) := by decide +kernel
theorem dX7_findTops_65 : decode cX7_findTops 65 = .ok (.iload_n 2, 1) := by decide +kernel
theorem dX7_findTops_66 : decode cX7_findTops 66 = .ok (.iload_n 3, 1) := by decide +kernel
theorem dX7_findTops_67 : decode cX7_findTops 67 = .ok (.isub, 1) := by decide +kernel
theorem dX7_findTops_68 : decode cX7_findTops 68 = .ok (.invokevirtual 81, 3) := by decide +kernel
theorem dX7_findTops_71 : decode cX7_findTops 71 = .ok (.iadd, 1) := by decide +kernel
theorem dX7_findTops_72 : decode cX7_findTops 72 = .ok (.iastore, 1) := by decide +kernel
theorem dX7_findTops_73 : decode cX7_findTops 73 = .ok (.iinc 3 1, 3) := by decide +kernel
theorem dX7_findTops_76 : decode cX7_findTops 76 = .ok (.goto (-41), 3) := by decide +kernel
theorem dX7_findTops_79 : decode cX7_findTops 79 = .ok (.aload_n 0, 1) := by decide +kernel
theorem dX7_findTops_80 : decode cX7_findTops 80 = .ok (.getfield 19, 3) := by decide +kernel
theorem dX7_findTops_83 : decode cX7_findTops 83 = .ok (.bipush 8, 2) := by decide +kernel
theorem dX7_findTops_85 : decode cX7_findTops 85 = .ok (.iload_n 1, 1) := by decide +kernel
theorem dX7_findTops_86 : decode cX7_findTops 86 = .ok (.imul, 1) := by decide +kernel
theorem dX7_findTops_87 : decode cX7_findTops 87 = .ok (.iload_n 2, 1) := by decide +kernel
theorem dX7_findTops_88 : decode cX7_findTops 88 = .ok (.iadd, 1) := by decide +kernel
theorem dX7_findTops_89 : decode cX7_findTops 89 = .ok (.iconst 0, 1) := by decide +kernel
theorem dX7_findTops_90 : decode cX7_findTops 90 = .ok (.iastore, 1) := by decide +kernel
theorem dX7_findTops_91 : decode cX7_findTops 91 = .ok (.iload_n 2, 1) := by decide +kernel
theorem dX7_findTops_92 : decode cX7_findTops 92 = .ok (.iconst 1, 1) := by decide +kernel
theorem dX7_findTops_93 : decode cX7_findTops 93 = .ok (.isub, 1) := by decide +kernel
theorem dX7_findTops_94 : decode cX7_findTops 94 = .ok (.istore_n 3, 1) := by decide +kernel
theorem dX7_findTops_95 : decode cX7_findTops 95 = .ok (.iload_n 3, 1) := by decide +kernel
theorem dX7_findTops_96 : decode cX7_findTops 96 = .ok (.ifCond .lt 44, 3) := by decide +kernel
theorem dX7_findTops_99 : decode cX7_findTops 99 = .ok (.aload_n 0, 1) := by decide +kernel
theorem dX7_findTops_100 : decode cX7_findTops 100 = .ok (.getfield 19, 3) := by decide +kernel
theorem dX7_findTops_103 : decode cX7_findTops 103 = .ok (.bipush 8, 2) := by decide +kernel
theorem dX7_findTops_105 : decode cX7_findTops 105 = .ok (.iload_n 1, 1) := by decide +kernel
theorem dX7_findTops_106 : decode cX7_findTops 106 = .ok (.imul, 1) := by decide +kernel
theorem dX7_findTops_107 : decode cX7_findTops 107 = .ok (.iload_n 3, 1) := by decide +kernel
theorem dX7_findTops_108 : decode cX7_findTops 108 = .ok (.iadd, 1) := by decide +kernel
theorem dX7_findTops_109 : decode cX7_findTops 109 = .ok (.aload_n 0, 1) := by decide +kernel
theorem dX7_findTops_110 : decode cX7_findTops 110 = .ok (.getfield 19, 3) := by decide +kernel
theorem dX7_findTops_113 : decode cX7_findTops 113 = .ok (.bipush 8, 2) := by decide +kernel
theorem dX7_findTops_115 : decode cX7_findTops 115 = .ok (.iload_n 1, 1) := by decide +kernel
theorem dX7_findTops_116 : decode cX7_findTops 116 = .ok (.imul, 1) := by decide +kernel
theorem dX7_findTops_117 : decode cX7_findTops 117 = .ok (.iload_n 3, 1) := by decide +kernel
theorem dX7_findTops_118 : decode cX7_findTops 118 = .ok (.iadd, 1) := by decide +kernel
theorem dX7_findTops_119 : decode cX7_findTops 119 = .ok (.iconst 1, 1) := by decide +kernel
theorem dX7_findTops_120 : decode cX7_findTops 120 = .ok (.iadd, 1) := by decide +kernel
theorem dX7_findTops_121 : decode cX7_findTops 121 = .ok (.iaload, 1) := by decide +kernel
theorem dX7_findTops_122 : decode cX7_findTops 122 = .ok (.aload_n 0, 1) := by decide +kernel
theorem dX7_findTops_123 : decode cX7_findTops 123 = .ok (.iload_n 1, 1) := by decide +kernel
theorem dX7_findTops_124 : decode cX7_findTops 124 = .ok (.iload_n 2, 1) := by decide +kernel
theorem dX7_findTops_125 : decode cX7_findTops 125 = .ok (.iload_n 3, 1) := by decide +kernel
theorem dX7_findTops_126 : decode cX7_findTops 126 = .ok (.isub, 1) := by decide +kernel
theorem dX7_findTops_127 : decode cX7_findTops 127 = .ok (.iconst 1, 1) := by decide +kernel
theorem dX7_findTops_128 : decode cX7_findTops 128 = .ok (.isub, 1) := by decide +kernel
theorem dX7_findTops_129 : decode cX7_findTops 129 = .ok (.invokevirtual 84, 3) := by decide +kernel
theorem dX7_findTops_132 : decode cX7_findTops 132 = .ok (.iadd, 1) := by decide +kernel
theorem dX7_findTops_133 : decode cX7_findTops 133 = .ok (.iastore, 1) := by decide +kernel
theorem dX7_findTops_134 : decode cX7_findTops 134 = .ok (.iinc 3 (-1), 3) := by decide +kernel
theorem dX7_findTops_137 : decode cX7_findTops 137 = .ok (.goto (-42), 3) := by decide +kernel
theorem dX7_findTops_140 : decode cX7_findTops 140 = .ok (.iinc 1 1, 3) := by decide +kernel
theorem dX7_findTops_143 : decode cX7_findTops 143 = .ok (.goto (-141), 3) := by decide +kernel
theorem dX7_findTops_146 : decode cX7_findTops 146 = .ok (.return_, 1) := by decide +kernel
def rmX7_findTops : Room := { frames := 3, cells := 0, slots := 0, locals := 70 }
abbrev eX7_findTops := Ev cX7_findTops 4 none RX7 rmX7_findTops
set_option maxRecDepth 20000 in
theorem ev_X7_findTops_l35 (l1 : Int32) (l2 : Int32)  (K : St → Prop) (Q : St → Prop) (hK : ∀  s, K  s → eX7_findTops 79 [.ref (49), .int (l1), .int (l2), un] [] s (qV Q)) : ∀ (n : Nat) (l3 : Int32) (σ : St), P_X7_findTops_l35 l1 l2 K Q n l3 σ → eX7_findTops 35 [.ref (49), .int (l1), .int (l2), .int (l3)] [] σ (qV Q) := by
  intro n
  induction n with
  | zero => intro l3 σ hP; exact hP.elim
  | succ n ih =>
    intro l3 σ hP
    rw [P_X7_findTops_l35] at hP
    refine E_iload_n dX7_findTops_35 rfl ?_
    refine E_iload_n dX7_findTops_36 rfl ?_
    refine E_icmp_gt 79 dX7_findTops_37 (by decide) (fun hc => ?_) (fun hc => ?_)
    · replace hP := hP.1 hc
      refine E_mask [true, true, true, false] rfl ?_
      exact hK  _ hP
    · replace hP := hP.2 hc
      refine E_aload_n dX7_findTops_40 rfl ?_
      refine E_getR (j := 2) dX7_findTops_41 (show kd 49 = 7 by decide) (by decide) rfl fd_RX7_16 (by decide) ?_
      refine E_bipush (v := 8) dX7_findTops_44 (by decide) ?_
      refine E_iload_n dX7_findTops_46 rfl ?_
      refine E_imul dX7_findTops_47 ?_
      refine E_iload_n dX7_findTops_48 rfl ?_
      refine E_iadd dX7_findTops_49 ?_
      refine E_aload_n dX7_findTops_50 rfl ?_
      refine E_getR (j := 2) dX7_findTops_51 (show kd 49 = 7 by decide) (by decide) rfl fd_RX7_16 (by decide) ?_
      refine E_bipush (v := 8) dX7_findTops_54 (by decide) ?_
      refine E_iload_n dX7_findTops_56 rfl ?_
      refine E_imul dX7_findTops_57 ?_
      refine E_iload_n dX7_findTops_58 rfl ?_
      refine E_iadd dX7_findTops_59 ?_
      refine E_iconst (v := 1) dX7_findTops_60 (by decide) ?_
      refine E_isub dX7_findTops_61 ?_
      obtain ⟨hb, hP⟩ := hP
      refine E_iald dX7_findTops_62 (ar_7_3 (show kd 49 = 7 by decide)).1 (ar_7_3 (show kd 49 = 7 by decide)).2 hb ?_
      refine E_aload_n dX7_findTops_63 rfl ?_
      refine E_iload_n dX7_findTops_64 rfl ?_
      refine E_iload_n dX7_findTops_65 rfl ?_
      refine E_iload_n dX7_findTops_66 rfl ?_
      refine E_isub dX7_findTops_67 ?_
      refine E_callV (As := [.int (l1), .int (l2 - l3)]) (rest := [.int (gI σ 52 (((8 * l1) + l3) - 1).toNatClampNeg), .int ((8 * l1) + l3), .ref (52)]) dX7_findTops_68 cl_RX7_81 tw_478 (show kd 49 = 7 by decide) (by decide) rfl tw_479 ⟨rfl, rfl, Nat.le_of_ble_eq_true rfl, Nat.le_of_ble_eq_true rfl⟩ rfl rfl (Nat.le_of_ble_eq_true rfl) (mt_X7_tall _ _ _ _  hP) ?_
      intro r0 s0 hq0; obtain ⟨r68, h0, hs0, hP⟩ := hq0; subst h0; rw [hs0]
      show eX7_findTops 71 [.ref (49), .int (l1), .int (l2), .int (l3)] [.int (r68), .int (gI σ 52 (((8 * l1) + l3) - 1).toNatClampNeg), .int ((8 * l1) + l3), .ref (52)] σ _
      refine E_iadd dX7_findTops_71 ?_
      obtain ⟨hb, hP⟩ := hP
      refine E_iast dX7_findTops_72 (ar_7_3 (show kd 49 = 7 by decide)).1 (ar_7_3 (show kd 49 = 7 by decide)).2 hb ?_
      refine E_iinc (ls' := [.ref (49), .int (l1), .int (l2), .int (l3 + 1)]) dX7_findTops_73 rfl rfl (by decide) rfl ?_
      refine E_goto 35 dX7_findTops_76 (by decide) ?_
      exact ih (l3 + 1) _ hP
set_option maxRecDepth 20000 in
theorem ev_X7_findTops_l95 (l1 : Int32) (l2 : Int32)  (K : St → Prop) (Q : St → Prop) (hK : ∀  s, K  s → eX7_findTops 140 [.ref (49), .int (l1), un, un] [] s (qV Q)) : ∀ (n : Nat) (l3 : Int32) (σ : St), P_X7_findTops_l95 l1 l2 K Q n l3 σ → eX7_findTops 95 [.ref (49), .int (l1), .int (l2), .int (l3)] [] σ (qV Q) := by
  intro n
  induction n with
  | zero => intro l3 σ hP; exact hP.elim
  | succ n ih =>
    intro l3 σ hP
    rw [P_X7_findTops_l95] at hP
    refine E_iload_n dX7_findTops_95 rfl ?_
    refine E_if_lt 140 dX7_findTops_96 (by decide) (fun hc => ?_) (fun hc => ?_)
    · replace hP := hP.1 hc
      refine E_mask [true, true, false, false] rfl ?_
      exact hK  _ hP
    · replace hP := hP.2 hc
      refine E_aload_n dX7_findTops_99 rfl ?_
      refine E_getR (j := 3) dX7_findTops_100 (show kd 49 = 7 by decide) (by decide) rfl fd_RX7_19 (by decide) ?_
      refine E_bipush (v := 8) dX7_findTops_103 (by decide) ?_
      refine E_iload_n dX7_findTops_105 rfl ?_
      refine E_imul dX7_findTops_106 ?_
      refine E_iload_n dX7_findTops_107 rfl ?_
      refine E_iadd dX7_findTops_108 ?_
      refine E_aload_n dX7_findTops_109 rfl ?_
      refine E_getR (j := 3) dX7_findTops_110 (show kd 49 = 7 by decide) (by decide) rfl fd_RX7_19 (by decide) ?_
      refine E_bipush (v := 8) dX7_findTops_113 (by decide) ?_
      refine E_iload_n dX7_findTops_115 rfl ?_
      refine E_imul dX7_findTops_116 ?_
      refine E_iload_n dX7_findTops_117 rfl ?_
      refine E_iadd dX7_findTops_118 ?_
      refine E_iconst (v := 1) dX7_findTops_119 (by decide) ?_
      refine E_iadd dX7_findTops_120 ?_
      obtain ⟨hb, hP⟩ := hP
      refine E_iald dX7_findTops_121 (ar_7_4 (show kd 49 = 7 by decide)).1 (ar_7_4 (show kd 49 = 7 by decide)).2 hb ?_
      refine E_aload_n dX7_findTops_122 rfl ?_
      refine E_iload_n dX7_findTops_123 rfl ?_
      refine E_iload_n dX7_findTops_124 rfl ?_
      refine E_iload_n dX7_findTops_125 rfl ?_
      refine E_isub dX7_findTops_126 ?_
      refine E_iconst (v := 1) dX7_findTops_127 (by decide) ?_
      refine E_isub dX7_findTops_128 ?_
      refine E_callV (As := [.int (l1), .int ((l2 - l3) - 1)]) (rest := [.int (gI σ 53 (((8 * l1) + l3) + 1).toNatClampNeg), .int ((8 * l1) + l3), .ref (53)]) dX7_findTops_129 cl_RX7_84 tw_483 (show kd 49 = 7 by decide) (by decide) rfl tw_484 ⟨rfl, rfl, Nat.le_of_ble_eq_true rfl, Nat.le_of_ble_eq_true rfl⟩ rfl rfl (Nat.le_of_ble_eq_true rfl) (mt_X7_coin _ _ _ _  hP) ?_
      intro r0 s0 hq0; obtain ⟨r129, h0, hs0, hP⟩ := hq0; subst h0; rw [hs0]
      show eX7_findTops 132 [.ref (49), .int (l1), .int (l2), .int (l3)] [.int (r129), .int (gI σ 53 (((8 * l1) + l3) + 1).toNatClampNeg), .int ((8 * l1) + l3), .ref (53)] σ _
      refine E_iadd dX7_findTops_132 ?_
      obtain ⟨hb, hP⟩ := hP
      refine E_iast dX7_findTops_133 (ar_7_4 (show kd 49 = 7 by decide)).1 (ar_7_4 (show kd 49 = 7 by decide)).2 hb ?_
      refine E_iinc (ls' := [.ref (49), .int (l1), .int (l2), .int (l3 + (-1))]) dX7_findTops_134 rfl rfl (by decide) rfl ?_
      refine E_goto 95 dX7_findTops_137 (by decide) ?_
      exact ih (l3 + (-1)) _ hP
set_option maxRecDepth 20000 in
theorem ev_X7_findTops_l2   (K : St → Prop) (Q : St → Prop) (hK : ∀  s, K  s → eX7_findTops 146 [un, un, un, un] [] s (qV Q)) : ∀ (n : Nat) (l1 : Int32) (σ : St), P_X7_findTops_l2  K Q n l1 σ → eX7_findTops 2 [.ref (49), .int (l1), un, un] [] σ (qV Q) := by
  intro n
  induction n with
  | zero => intro l1 σ hP; exact hP.elim
  | succ n ih =>
    intro l1 σ hP
    rw [P_X7_findTops_l2] at hP
    refine E_iload_n dX7_findTops_2 rfl ?_
    refine E_iconst (v := 4) dX7_findTops_3 (by decide) ?_
    refine E_icmp_ge 146 dX7_findTops_4 (by decide) (fun hc => ?_) (fun hc => ?_)
    · replace hP := hP.1 hc
      refine E_mask [false, false, false, false] rfl ?_
      exact hK  _ hP
    · replace hP := hP.2 hc
      refine E_aload_n dX7_findTops_7 rfl ?_
      refine E_iload_n dX7_findTops_8 rfl ?_
      refine E_callV (As := [.int (l1)]) (rest := []) dX7_findTops_9 cl_RX7_66 tw_460 (show kd 49 = 7 by decide) (by decide) rfl tw_461 ⟨rfl, rfl, Nat.le_of_ble_eq_true rfl, Nat.le_of_ble_eq_true rfl⟩ rfl rfl (Nat.le_of_ble_eq_true rfl) (mt_X7_many _ _ _  hP) ?_
      intro r0 s0 hq0; obtain ⟨r9, h0, hs0, hP⟩ := hq0; subst h0; rw [hs0]
      show eX7_findTops 12 [.ref (49), .int (l1), un, un] [.int (r9)] σ _
      refine E_istore_n (ls' := [.ref (49), .int (l1), .int (r9), un]) dX7_findTops_12 (by decide) rfl ?_
      refine E_aload_n dX7_findTops_13 rfl ?_
      refine E_getR (j := 2) dX7_findTops_14 (show kd 49 = 7 by decide) (by decide) rfl fd_RX7_16 (by decide) ?_
      refine E_bipush (v := 8) dX7_findTops_17 (by decide) ?_
      refine E_iload_n dX7_findTops_19 rfl ?_
      refine E_imul dX7_findTops_20 ?_
      refine E_aload_n dX7_findTops_21 rfl ?_
      refine E_getR (j := 0) dX7_findTops_22 (show kd 49 = 7 by decide) (by decide) rfl fd_RX7_7 (by decide) ?_
      refine E_bipush (v := 23) dX7_findTops_25 (by decide) ?_
      refine E_iload_n dX7_findTops_27 rfl ?_
      refine E_imul dX7_findTops_28 ?_
      refine E_iconst (v := 1) dX7_findTops_29 (by decide) ?_
      refine E_iadd dX7_findTops_30 ?_
      obtain ⟨hb, hP⟩ := hP
      refine E_iald dX7_findTops_31 (ar_7_1 (show kd 49 = 7 by decide)).1 (ar_7_1 (show kd 49 = 7 by decide)).2 hb ?_
      obtain ⟨hb, hP⟩ := hP
      refine E_iast dX7_findTops_32 (ar_7_3 (show kd 49 = 7 by decide)).1 (ar_7_3 (show kd 49 = 7 by decide)).2 hb ?_
      refine E_iconst (v := 1) dX7_findTops_33 (by decide) ?_
      refine E_istore_n (ls' := [.ref (49), .int (l1), .int (r9), .int (1)]) dX7_findTops_34 (by decide) rfl ?_
      obtain ⟨m35, hP⟩ := hP
      refine ev_X7_findTops_l35 (l1) (r9)  _ Q ?_ m35 _ _ hP
      intro  t79 hP
      refine E_aload_n dX7_findTops_79 rfl ?_
      refine E_getR (j := 3) dX7_findTops_80 (show kd 49 = 7 by decide) (by decide) rfl fd_RX7_19 (by decide) ?_
      refine E_bipush (v := 8) dX7_findTops_83 (by decide) ?_
      refine E_iload_n dX7_findTops_85 rfl ?_
      refine E_imul dX7_findTops_86 ?_
      refine E_iload_n dX7_findTops_87 rfl ?_
      refine E_iadd dX7_findTops_88 ?_
      refine E_iconst (v := 0) dX7_findTops_89 (by decide) ?_
      obtain ⟨hb, hP⟩ := hP
      refine E_iast dX7_findTops_90 (ar_7_4 (show kd 49 = 7 by decide)).1 (ar_7_4 (show kd 49 = 7 by decide)).2 hb ?_
      refine E_iload_n dX7_findTops_91 rfl ?_
      refine E_iconst (v := 1) dX7_findTops_92 (by decide) ?_
      refine E_isub dX7_findTops_93 ?_
      refine E_istore_n (ls' := [.ref (49), .int (l1), .int (r9), .int (r9 - 1)]) dX7_findTops_94 (by decide) rfl ?_
      obtain ⟨m95, hP⟩ := hP
      refine ev_X7_findTops_l95 (l1) (r9)  _ Q ?_ m95 _ _ hP
      intro  t140 hP
      refine E_iinc (ls' := [.ref (49), .int (l1 + 1), un, un]) dX7_findTops_140 rfl rfl (by decide) rfl ?_
      refine E_goto 2 dX7_findTops_143 (by decide) ?_
      exact ih (l1 + 1) _ hP
set_option maxRecDepth 20000 in
theorem mt_X7_findTops  (σ : St) (Q : St → Prop)  (hP : P_X7_findTops  σ Q) : Mt yX7_findTops cX7_findTops 4 none rmX7_findTops [.ref (49)] σ (qV Q) := by
  refine Mt.of (k := 3) (ls := [.ref (49), un, un, un]) (by decide +kernel) rfl (Nat.le_of_ble_eq_true rfl) ?_
  show eX7_findTops 0 [.ref (49), un, un, un] [] σ _
  unfold P_X7_findTops at hP
  refine E_iconst (v := 0) dX7_findTops_0 (by decide) ?_
  refine E_istore_n (ls' := [.ref (49), .int (0), un, un]) dX7_findTops_1 (by decide) rfl ?_
  obtain ⟨m2, hP⟩ := hP
  refine ev_X7_findTops_l2   _ Q ?_ m2 _ _ hP
  intro  t146 hP
  exact E_vret dX7_findTops_146 rfl ⟨rfl, hP⟩
theorem dX7_topIn_0 : decode cX7_topIn 0 = .ok (.aload_n 0, 1) := by decide +kernel
theorem dX7_topIn_1 : decode cX7_topIn 1 = .ok (.getfield 16, 3) := by decide +kernel
theorem dX7_topIn_4 : decode cX7_topIn 4 = .ok (.bipush 8, 2) := by decide +kernel
theorem dX7_topIn_6 : decode cX7_topIn 6 = .ok (.iload_n 2, 1) := by decide +kernel
theorem dX7_topIn_7 : decode cX7_topIn 7 = .ok (.imul, 1) := by decide +kernel
theorem dX7_topIn_8 : decode cX7_topIn 8 = .ok (.iload_n 1, 1) := by decide +kernel
theorem dX7_topIn_9 : decode cX7_topIn 9 = .ok (.iload_n 2, 1) := by decide +kernel
theorem dX7_topIn_10 : decode cX7_topIn 10 = .ok (.invokestatic 77, 3) := by decide +kernel
theorem dX7_topIn_13 : decode cX7_topIn 13 = .ok (.iadd, 1) := by decide +kernel
theorem dX7_topIn_14 : decode cX7_topIn 14 = .ok (.iaload, 1) := by decide +kernel
theorem dX7_topIn_15 : decode cX7_topIn 15 = .ok (.ireturn, 1) := by decide +kernel
def rmX7_topIn : Room := { frames := 1, cells := 0, slots := 0, locals := 21 }
abbrev eX7_topIn := Ev cX7_topIn 3 (some .int) RX7 rmX7_topIn
set_option maxRecDepth 20000 in
theorem mt_X7_topIn (p0 : Int32) (p1 : Int32) (σ : St) (Q : Int32 → Prop)  (hP : P_X7_topIn p0 p1 σ Q) : Mt yX7_topIn cX7_topIn 3 (some .int) rmX7_topIn [.ref (49), .int (p0), .int (p1)] σ (qI fun x s => s = σ ∧ Q x) := by
  refine Mt.of (k := 0) (ls := [.ref (49), .int (p0), .int (p1)]) (by decide +kernel) rfl (Nat.le_of_ble_eq_true rfl) ?_
  show eX7_topIn 0 [.ref (49), .int (p0), .int (p1)] [] σ _
  unfold P_X7_topIn at hP
  refine E_aload_n dX7_topIn_0 rfl ?_
  refine E_getR (j := 2) dX7_topIn_1 (show kd 49 = 7 by decide) (by decide) rfl fd_RX7_16 (by decide) ?_
  refine E_bipush (v := 8) dX7_topIn_4 (by decide) ?_
  refine E_iload_n dX7_topIn_6 rfl ?_
  refine E_imul dX7_topIn_7 ?_
  refine E_iload_n dX7_topIn_8 rfl ?_
  refine E_iload_n dX7_topIn_9 rfl ?_
  refine E_callS (As := [.int (p0), .int (p1)]) (rest := [.int (8 * p1), .ref (52)]) dX7_topIn_10 cl_RX7_77 tw_474 ⟨rfl, rfl, Nat.le_of_ble_eq_true rfl, Nat.le_of_ble_eq_true rfl⟩ rfl rfl (Nat.le_of_ble_eq_true rfl) (mt_X7_left _ _ _ _  hP) ?_
  intro r0 s0 hq0; obtain ⟨r10, h0, hs0, hP⟩ := hq0; subst h0; rw [hs0]
  show eX7_topIn 13 [.ref (49), .int (p0), .int (p1)] [.int (r10), .int (8 * p1), .ref (52)] σ _
  refine E_iadd dX7_topIn_13 ?_
  obtain ⟨hb, hP⟩ := hP
  refine E_iald dX7_topIn_14 (ar_7_3 (show kd 49 = 7 by decide)).1 (ar_7_3 (show kd 49 = 7 by decide)).2 hb ?_
  exact E_iret dX7_topIn_15 rfl ⟨_, rfl, rfl, hP⟩
theorem dX7_lies_0 : decode cX7_lies 0 = .ok (.aload_n 0, 1) := by decide +kernel
theorem dX7_lies_1 : decode cX7_lies 1 = .ok (.getfield 7, 3) := by decide +kernel
theorem dX7_lies_4 : decode cX7_lies 4 = .ok (.bipush 92, 2) := by decide +kernel
theorem dX7_lies_6 : decode cX7_lies 6 = .ok (.iaload, 1) := by decide +kernel
theorem dX7_lies_7 : decode cX7_lies 7 = .ok (.iload_n 1, 1) := by decide +kernel
theorem dX7_lies_8 : decode cX7_lies 8 = .ok (.ishr, 1) := by decide +kernel
theorem dX7_lies_9 : decode cX7_lies 9 = .ok (.iconst 1, 1) := by decide +kernel
theorem dX7_lies_10 : decode cX7_lies 10 = .ok (.iand, 1) := by decide +kernel
theorem dX7_lies_11 : decode cX7_lies 11 = .ok (.iconst 1, 1) := by decide +kernel
theorem dX7_lies_12 : decode cX7_lies 12 = .ok (.if_icmp .ne 7, 3) := by decide +kernel
theorem dX7_lies_15 : decode cX7_lies 15 = .ok (.iconst 1, 1) := by decide +kernel
theorem dX7_lies_16 : decode cX7_lies 16 = .ok (.goto 4, 3) := by decide +kernel
theorem dX7_lies_19 : decode cX7_lies 19 = .ok (.iconst 0, 1) := by decide +kernel
theorem dX7_lies_20 : decode cX7_lies 20 = .ok (.ireturn, 1) := by decide +kernel
def rmX7_lies : Room := { frames := 0, cells := 0, slots := 0, locals := 0 }
abbrev eX7_lies := Ev cX7_lies 2 (some .boolean) RX7 rmX7_lies
set_option maxRecDepth 20000 in
theorem mt_X7_lies (p0 : Int32) (σ : St) (Q : Bool → Prop)  (hP : P_X7_lies p0 σ Q) : Mt yX7_lies cX7_lies 2 (some .boolean) rmX7_lies [.ref (49), .int (p0)] σ (qB fun x s => s = σ ∧ Q x) := by
  refine Mt.of (k := 0) (ls := [.ref (49), .int (p0)]) (by decide +kernel) rfl (Nat.le_of_ble_eq_true rfl) ?_
  show eX7_lies 0 [.ref (49), .int (p0)] [] σ _
  unfold P_X7_lies at hP
  refine E_aload_n dX7_lies_0 rfl ?_
  refine E_getR (j := 0) dX7_lies_1 (show kd 49 = 7 by decide) (by decide) rfl fd_RX7_7 (by decide) ?_
  refine E_bipush (v := 92) dX7_lies_4 (by decide) ?_
  refine E_iald dX7_lies_6 (ar_7_1 (show kd 49 = 7 by decide)).1 (ar_7_1 (show kd 49 = 7 by decide)).2 (vp_c (by decide)) ?_
  refine E_iload_n dX7_lies_7 rfl ?_
  refine E_ishr dX7_lies_8 ?_
  refine E_iconst (v := 1) dX7_lies_9 (by decide) ?_
  refine E_iand dX7_lies_10 ?_
  refine E_iconst (v := 1) dX7_lies_11 (by decide) ?_
  refine E_icmp_ne 19 dX7_lies_12 (by decide) (fun hc => ?_) (fun hc => ?_)
  · replace hP := hP.1 hc
    refine E_iconst (v := 0) dX7_lies_19 (by decide) ?_
    exact E_nret dX7_lies_20 rfl (nar_b false) ⟨false, rfl, rfl, hP⟩
  · replace hP := hP.2 hc
    refine E_iconst (v := 1) dX7_lies_15 (by decide) ?_
    refine E_goto 20 dX7_lies_16 (by decide) ?_
    exact E_nret dX7_lies_20 rfl (nar_b true) ⟨true, rfl, rfl, hP⟩
