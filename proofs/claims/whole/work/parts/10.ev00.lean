theorem dX0_place_0 : decode cX0_place 0 = .ok (.iload_n 0, 1) := by decide +kernel
theorem dX0_place_1 : decode cX0_place 1 = .ok (.bipush 7, 2) := by decide +kernel
theorem dX0_place_3 : decode cX0_place 3 = .ok (.imul, 1) := by decide +kernel
theorem dX0_place_4 : decode cX0_place 4 = .ok (.iload_n 1, 1) := by decide +kernel
theorem dX0_place_5 : decode cX0_place 5 = .ok (.iadd, 1) := by decide +kernel
theorem dX0_place_6 : decode cX0_place 6 = .ok (.ireturn, 1) := by decide +kernel
def rmX0_place : Room := { frames := 0, cells := 0, slots := 0, locals := 0 }
abbrev eX0_place := Ev cX0_place 2 (some .int) RX0 rmX0_place
set_option maxRecDepth 20000 in
theorem mt_X0_place (p0 : Int32) (p1 : Int32) (σ : St) (Q : Int32 → Prop)  (hP : P_X0_place p0 p1 σ Q) : Mt yX0_place cX0_place 2 (some .int) rmX0_place [.int (p0), .int (p1)] σ (qI fun x s => s = σ ∧ Q x) := by
  refine Mt.of (k := 0) (ls := [.int (p0), .int (p1)]) (by decide +kernel) rfl (Nat.le_of_ble_eq_true rfl) ?_
  show eX0_place 0 [.int (p0), .int (p1)] [] σ _
  unfold P_X0_place at hP
  refine E_iload_n dX0_place_0 rfl ?_
  refine E_bipush (v := 7) dX0_place_1 (by decide) ?_
  refine E_imul dX0_place_3 ?_
  refine E_iload_n dX0_place_4 rfl ?_
  refine E_iadd dX0_place_5 ?_
  exact E_iret dX0_place_6 rfl ⟨_, rfl, rfl, hP⟩
theorem dX0_becomeLike_0 : decode cX0_becomeLike 0 = .ok (.aload_n 1, 1) := by decide +kernel
theorem dX0_becomeLike_1 : decode cX0_becomeLike 1 = .ok (.getfield 9, 3) := by decide +kernel
theorem dX0_becomeLike_4 : decode cX0_becomeLike 4 = .ok (.iconst 0, 1) := by decide +kernel
theorem dX0_becomeLike_5 : decode cX0_becomeLike 5 = .ok (.aload_n 0, 1) := by decide +kernel
theorem dX0_becomeLike_6 : decode cX0_becomeLike 6 = .ok (.getfield 9, 3) := by decide +kernel
theorem dX0_becomeLike_9 : decode cX0_becomeLike 9 = .ok (.iconst 0, 1) := by decide +kernel
theorem dX0_becomeLike_10 : decode cX0_becomeLike 10 = .ok (.bipush 28, 2) := by decide +kernel
theorem dX0_becomeLike_12 : decode cX0_becomeLike 12 = .ok (.invokestatic 34, 3) := by decide +kernel
theorem dX0_becomeLike_15 : decode cX0_becomeLike 15 = .ok (.aload_n 1, 1) := by decide +kernel
theorem dX0_becomeLike_16 : decode cX0_becomeLike 16 = .ok (.getfield 15, 3) := by decide +kernel
theorem dX0_becomeLike_19 : decode cX0_becomeLike 19 = .ok (.iconst 0, 1) := by decide +kernel
theorem dX0_becomeLike_20 : decode cX0_becomeLike 20 = .ok (.aload_n 0, 1) := by decide +kernel
theorem dX0_becomeLike_21 : decode cX0_becomeLike 21 = .ok (.getfield 15, 3) := by decide +kernel
theorem dX0_becomeLike_24 : decode cX0_becomeLike 24 = .ok (.iconst 0, 1) := by decide +kernel
theorem dX0_becomeLike_25 : decode cX0_becomeLike 25 = .ok (.bipush 28, 2) := by decide +kernel
theorem dX0_becomeLike_27 : decode cX0_becomeLike 27 = .ok (.invokestatic 34, 3) := by decide +kernel
theorem dX0_becomeLike_30 : decode cX0_becomeLike 30 = .ok (.aload_n 1, 1) := by decide +kernel
theorem dX0_becomeLike_31 : decode cX0_becomeLike 31 = .ok (.getfield 18, 3) := by decide +kernel
theorem dX0_becomeLike_34 : decode cX0_becomeLike 34 = .ok (.iconst 0, 1) := by decide +kernel
theorem dX0_becomeLike_35 : decode cX0_becomeLike 35 = .ok (.aload_n 0, 1) := by decide +kernel
theorem dX0_becomeLike_36 : decode cX0_becomeLike 36 = .ok (.getfield 18, 3) := by decide +kernel
theorem dX0_becomeLike_39 : decode cX0_becomeLike 39 = .ok (.iconst 0, 1) := by decide +kernel
theorem dX0_becomeLike_40 : decode cX0_becomeLike 40 = .ok (.bipush 28, 2) := by decide +kernel
theorem dX0_becomeLike_42 : decode cX0_becomeLike 42 = .ok (.invokestatic 34, 3) := by decide +kernel
theorem dX0_becomeLike_45 : decode cX0_becomeLike 45 = .ok (.aload_n 1, 1) := by decide +kernel
theorem dX0_becomeLike_46 : decode cX0_becomeLike 46 = .ok (.getfield 21, 3) := by decide +kernel
theorem dX0_becomeLike_49 : decode cX0_becomeLike 49 = .ok (.iconst 0, 1) := by decide +kernel
theorem dX0_becomeLike_50 : decode cX0_becomeLike 50 = .ok (.aload_n 0, 1) := by decide +kernel
theorem dX0_becomeLike_51 : decode cX0_becomeLike 51 = .ok (.getfield 21, 3) := by decide +kernel
theorem dX0_becomeLike_54 : decode cX0_becomeLike 54 = .ok (.iconst 0, 1) := by decide +kernel
theorem dX0_becomeLike_55 : decode cX0_becomeLike 55 = .ok (.iconst 4, 1) := by decide +kernel
theorem dX0_becomeLike_56 : decode cX0_becomeLike 56 = .ok (.invokestatic 34, 3) := by decide +kernel
theorem dX0_becomeLike_59 : decode cX0_becomeLike 59 = .ok (.aload_n 1, 1) := by decide +kernel
theorem dX0_becomeLike_60 : decode cX0_becomeLike 60 = .ok (.getfield 24, 3) := by decide +kernel
theorem dX0_becomeLike_63 : decode cX0_becomeLike 63 = .ok (.iconst 0, 1) := by decide +kernel
theorem dX0_becomeLike_64 : decode cX0_becomeLike 64 = .ok (.aload_n 0, 1) := by decide +kernel
theorem dX0_becomeLike_65 : decode cX0_becomeLike 65 = .ok (.getfield 24, 3) := by decide +kernel
theorem dX0_becomeLike_68 : decode cX0_becomeLike 68 = .ok (.iconst 0, 1) := by decide +kernel
theorem dX0_becomeLike_69 : decode cX0_becomeLike 69 = .ok (.iconst 4, 1) := by decide +kernel
theorem dX0_becomeLike_70 : decode cX0_becomeLike 70 = .ok (.invokestatic 34, 3) := by decide +kernel
theorem dX0_becomeLike_73 : decode cX0_becomeLike 73 = .ok (.aload_n 0, 1) := by decide +kernel
theorem dX0_becomeLike_74 : decode cX0_becomeLike 74 = .ok (.aload_n 1, 1) := by decide +kernel
theorem dX0_becomeLike_75 : decode cX0_becomeLike 75 = .ok (.getfield 27, 3) := by decide +kernel
theorem dX0_becomeLike_78 : decode cX0_becomeLike 78 = .ok (.putfield 27, 3) := by decide +kernel
theorem dX0_becomeLike_81 : decode cX0_becomeLike 81 = .ok (.aload_n 0, 1) := by decide +kernel
theorem dX0_becomeLike_82 : decode cX0_becomeLike 82 = .ok (.aload_n 1, 1) := by decide +kernel
theorem dX0_becomeLike_83 : decode cX0_becomeLike 83 = .ok (.getfield 31, 3) := by decide +kernel
theorem dX0_becomeLike_86 : decode cX0_becomeLike 86 = .ok (.putfield 31, 3) := by decide +kernel
theorem dX0_becomeLike_89 : decode cX0_becomeLike 89 = .ok (.aload_n 0, 1) := by decide +kernel
theorem dX0_becomeLike_90 : decode cX0_becomeLike 90 = .ok (.aload_n 1, 1) := by decide +kernel
theorem dX0_becomeLike_91 : decode cX0_becomeLike 91 = .ok (.getfield 40, 3) := by decide +kernel
theorem dX0_becomeLike_94 : decode cX0_becomeLike 94 = .ok (.putfield 40, 3) := by decide +kernel
theorem dX0_becomeLike_97 : decode cX0_becomeLike 97 = .ok (.aload_n 0, 1) := by decide +kernel
theorem dX0_becomeLike_98 : decode cX0_becomeLike 98 = .ok (.aload_n 1, 1) := by decide +kernel
theorem dX0_becomeLike_99 : decode cX0_becomeLike 99 = .ok (.getfield 43, 3) := by decide +kernel
theorem dX0_becomeLike_102 : decode cX0_becomeLike 102 = .ok (.putfield 43, 3) := by decide +kernel
theorem dX0_becomeLike_105 : decode cX0_becomeLike 105 = .ok (.return_, 1) := by decide +kernel
def rmX0_becomeLike : Room := { frames := 1, cells := 0, slots := 0, locals := 26 }
abbrev eX0_becomeLike := Ev cX0_becomeLike 2 none RX0 rmX0_becomeLike
set_option maxRecDepth 20000 in
theorem mt_X0_becomeLike (a0 : Nat) (p0 : Nat) (σ : St) (Q : St → Prop) (o_a0 : kd a0 = 0) (o_p0 : kd p0 = 0) (hP : P_X0_becomeLike a0 p0 σ Q) : Mt yX0_becomeLike cX0_becomeLike 2 none rmX0_becomeLike [.ref (a0), .ref (p0)] σ (qV Q) := by
  refine Mt.of (k := 0) (ls := [.ref (a0), .ref (p0)]) (by decide +kernel) rfl (Nat.le_of_ble_eq_true rfl) ?_
  show eX0_becomeLike 0 [.ref (a0), .ref (p0)] [] σ _
  unfold P_X0_becomeLike at hP
  refine E_aload_n dX0_becomeLike_0 rfl ?_
  refine E_getR (j := 0) dX0_becomeLike_1 o_p0 (by decide) rfl fd_RX0_9 (by decide) ?_
  refine E_iconst (v := 0) dX0_becomeLike_4 (by decide) ?_
  refine E_aload_n dX0_becomeLike_5 rfl ?_
  refine E_getR (j := 0) dX0_becomeLike_6 o_a0 (by decide) rfl fd_RX0_9 (by decide) ?_
  refine E_iconst (v := 0) dX0_becomeLike_9 (by decide) ?_
  refine E_bipush (v := 28) dX0_becomeLike_10 (by decide) ?_
  refine E_cpI dX0_becomeLike_12 tw_9 tw_10 tw_11 tw_12 (ar_0_1 o_p0).1 (ar_0_1 o_p0).2 (ar_0_1 o_a0).1 (ar_0_1 o_a0).2 ⟨Nat.le_of_ble_eq_true rfl, Nat.le_of_ble_eq_true rfl⟩ (by decide) (by decide) (by decide) (by decide) (by decide) ?_
  refine E_aload_n dX0_becomeLike_15 rfl ?_
  refine E_getR (j := 1) dX0_becomeLike_16 o_p0 (by decide) rfl fd_RX0_15 (by decide) ?_
  refine E_iconst (v := 0) dX0_becomeLike_19 (by decide) ?_
  refine E_aload_n dX0_becomeLike_20 rfl ?_
  refine E_getR (j := 1) dX0_becomeLike_21 o_a0 (by decide) rfl fd_RX0_15 (by decide) ?_
  refine E_iconst (v := 0) dX0_becomeLike_24 (by decide) ?_
  refine E_bipush (v := 28) dX0_becomeLike_25 (by decide) ?_
  refine E_cpI dX0_becomeLike_27 tw_9 tw_10 tw_11 tw_12 (ar_0_2 o_p0).1 (ar_0_2 o_p0).2 (ar_0_2 o_a0).1 (ar_0_2 o_a0).2 ⟨Nat.le_of_ble_eq_true rfl, Nat.le_of_ble_eq_true rfl⟩ (by decide) (by decide) (by decide) (by decide) (by decide) ?_
  refine E_aload_n dX0_becomeLike_30 rfl ?_
  refine E_getR (j := 2) dX0_becomeLike_31 o_p0 (by decide) rfl fd_RX0_18 (by decide) ?_
  refine E_iconst (v := 0) dX0_becomeLike_34 (by decide) ?_
  refine E_aload_n dX0_becomeLike_35 rfl ?_
  refine E_getR (j := 2) dX0_becomeLike_36 o_a0 (by decide) rfl fd_RX0_18 (by decide) ?_
  refine E_iconst (v := 0) dX0_becomeLike_39 (by decide) ?_
  refine E_bipush (v := 28) dX0_becomeLike_40 (by decide) ?_
  refine E_cpI dX0_becomeLike_42 tw_9 tw_10 tw_11 tw_12 (ar_0_3 o_p0).1 (ar_0_3 o_p0).2 (ar_0_3 o_a0).1 (ar_0_3 o_a0).2 ⟨Nat.le_of_ble_eq_true rfl, Nat.le_of_ble_eq_true rfl⟩ (by decide) (by decide) (by decide) (by decide) (by decide) ?_
  refine E_aload_n dX0_becomeLike_45 rfl ?_
  refine E_getR (j := 3) dX0_becomeLike_46 o_p0 (by decide) rfl fd_RX0_21 (by decide) ?_
  refine E_iconst (v := 0) dX0_becomeLike_49 (by decide) ?_
  refine E_aload_n dX0_becomeLike_50 rfl ?_
  refine E_getR (j := 3) dX0_becomeLike_51 o_a0 (by decide) rfl fd_RX0_21 (by decide) ?_
  refine E_iconst (v := 0) dX0_becomeLike_54 (by decide) ?_
  refine E_iconst (v := 4) dX0_becomeLike_55 (by decide) ?_
  refine E_cpI dX0_becomeLike_56 tw_9 tw_10 tw_11 tw_12 (ar_0_4 o_p0).1 (ar_0_4 o_p0).2 (ar_0_4 o_a0).1 (ar_0_4 o_a0).2 ⟨Nat.le_of_ble_eq_true rfl, Nat.le_of_ble_eq_true rfl⟩ (by decide) (by decide) (by decide) (by decide) (by decide) ?_
  refine E_aload_n dX0_becomeLike_59 rfl ?_
  refine E_getR (j := 4) dX0_becomeLike_60 o_p0 (by decide) rfl fd_RX0_24 (by decide) ?_
  refine E_iconst (v := 0) dX0_becomeLike_63 (by decide) ?_
  refine E_aload_n dX0_becomeLike_64 rfl ?_
  refine E_getR (j := 4) dX0_becomeLike_65 o_a0 (by decide) rfl fd_RX0_24 (by decide) ?_
  refine E_iconst (v := 0) dX0_becomeLike_68 (by decide) ?_
  refine E_iconst (v := 4) dX0_becomeLike_69 (by decide) ?_
  refine E_cpI dX0_becomeLike_70 tw_9 tw_10 tw_11 tw_12 (ar_0_5 o_p0).1 (ar_0_5 o_p0).2 (ar_0_5 o_a0).1 (ar_0_5 o_a0).2 ⟨Nat.le_of_ble_eq_true rfl, Nat.le_of_ble_eq_true rfl⟩ (by decide) (by decide) (by decide) (by decide) (by decide) ?_
  refine E_nm (fun s70 hs70 => ?_)
  replace hP := hP s70 hs70
  refine E_aload_n dX0_becomeLike_73 rfl ?_
  refine E_aload_n dX0_becomeLike_74 rfl ?_
  refine E_getI (j := 5) dX0_becomeLike_75 o_p0 (by decide) rfl fd_RX0_27 ?_
  refine E_putI (j := 5) dX0_becomeLike_78 o_a0 (by decide) rfl fd_RX0_27 fp_0_5 ?_
  refine E_aload_n dX0_becomeLike_81 rfl ?_
  refine E_aload_n dX0_becomeLike_82 rfl ?_
  refine E_getI (j := 6) dX0_becomeLike_83 o_p0 (by decide) rfl fd_RX0_31 ?_
  refine E_putI (j := 6) dX0_becomeLike_86 o_a0 (by decide) rfl fd_RX0_31 fp_0_6 ?_
  refine E_nm (fun s86 hs86 => ?_)
  replace hP := hP s86 hs86
  refine E_aload_n dX0_becomeLike_89 rfl ?_
  refine E_aload_n dX0_becomeLike_90 rfl ?_
  refine E_getI (j := 7) dX0_becomeLike_91 o_p0 (by decide) rfl fd_RX0_40 ?_
  refine E_putI (j := 7) dX0_becomeLike_94 o_a0 (by decide) rfl fd_RX0_40 fp_0_7 ?_
  refine E_aload_n dX0_becomeLike_97 rfl ?_
  refine E_aload_n dX0_becomeLike_98 rfl ?_
  refine E_getI (j := 8) dX0_becomeLike_99 o_p0 (by decide) rfl fd_RX0_43 ?_
  refine E_putI (j := 8) dX0_becomeLike_102 o_a0 (by decide) rfl fd_RX0_43 fp_0_8 ?_
  exact E_vret dX0_becomeLike_105 rfl ⟨rfl, hP⟩
theorem dX0_put_0 : decode cX0_put 0 = .ok (.iload_n 2, 1) := by decide +kernel
theorem dX0_put_1 : decode cX0_put 1 = .ok (.aload_n 0, 1) := by decide +kernel
theorem dX0_put_2 : decode cX0_put 2 = .ok (.getfield 21, 3) := by decide +kernel
theorem dX0_put_5 : decode cX0_put 5 = .ok (.iload_n 2, 1) := by decide +kernel
theorem dX0_put_6 : decode cX0_put 6 = .ok (.iaload, 1) := by decide +kernel
theorem dX0_put_7 : decode cX0_put 7 = .ok (.invokestatic 46, 3) := by decide +kernel
theorem dX0_put_10 : decode cX0_put 10 = .ok (.istore 5, 2) := by decide +kernel
theorem dX0_put_12 : decode cX0_put 12 = .ok (.aload_n 0, 1) := by decide +kernel
theorem dX0_put_13 : decode cX0_put 13 = .ok (.getfield 9, 3) := by decide +kernel
theorem dX0_put_16 : decode cX0_put 16 = .ok (.iload 5, 2) := by decide +kernel
theorem dX0_put_18 : decode cX0_put 18 = .ok (.iload_n 1, 1) := by decide +kernel
theorem dX0_put_19 : decode cX0_put 19 = .ok (.iastore, 1) := by decide +kernel
theorem dX0_put_20 : decode cX0_put 20 = .ok (.aload_n 0, 1) := by decide +kernel
theorem dX0_put_21 : decode cX0_put 21 = .ok (.getfield 15, 3) := by decide +kernel
theorem dX0_put_24 : decode cX0_put 24 = .ok (.iload 5, 2) := by decide +kernel
theorem dX0_put_26 : decode cX0_put 26 = .ok (.iload_n 3, 1) := by decide +kernel
theorem dX0_put_27 : decode cX0_put 27 = .ok (.iastore, 1) := by decide +kernel
theorem dX0_put_28 : decode cX0_put 28 = .ok (.aload_n 0, 1) := by decide +kernel
theorem dX0_put_29 : decode cX0_put 29 = .ok (.getfield 18, 3) := by decide +kernel
theorem dX0_put_32 : decode cX0_put 32 = .ok (.iload 5, 2) := by decide +kernel
theorem dX0_put_34 : decode cX0_put 34 = .ok (.iload 4, 2) := by decide +kernel
theorem dX0_put_36 : decode cX0_put 36 = .ok (.iastore, 1) := by decide +kernel
theorem dX0_put_37 : decode cX0_put 37 = .ok (.aload_n 0, 1) := by decide +kernel
theorem dX0_put_38 : decode cX0_put 38 = .ok (.getfield 21, 3) := by decide +kernel
theorem dX0_put_41 : decode cX0_put 41 = .ok (.iload_n 2, 1) := by decide +kernel
theorem dX0_put_42 : decode cX0_put 42 = .ok (.dup2, 1) := by decide +kernel
theorem dX0_put_43 : decode cX0_put 43 = .ok (.iaload, 1) := by decide +kernel
theorem dX0_put_44 : decode cX0_put 44 = .ok (.iconst 1, 1) := by decide +kernel
theorem dX0_put_45 : decode cX0_put 45 = .ok (.iadd, 1) := by decide +kernel
theorem dX0_put_46 : decode cX0_put 46 = .ok (.iastore, 1) := by decide +kernel
theorem dX0_put_47 : decode cX0_put 47 = .ok (.return_, 1) := by decide +kernel
def rmX0_put : Room := { frames := 1, cells := 0, slots := 0, locals := 21 }
abbrev eX0_put := Ev cX0_put 6 none RX0 rmX0_put
set_option maxRecDepth 20000 in
theorem mt_X0_put (a0 : Nat) (p0 : Int32) (p1 : Int32) (p2 : Int32) (p3 : Int32) (σ : St) (Q : St → Prop) (o_a0 : kd a0 = 0) (hP : P_X0_put a0 p0 p1 p2 p3 σ Q) : Mt yX0_put cX0_put 6 none rmX0_put [.ref (a0), .int (p0), .int (p1), .int (p2), .int (p3)] σ (qV Q) := by
  refine Mt.of (k := 1) (ls := [.ref (a0), .int (p0), .int (p1), .int (p2), .int (p3), un]) (by decide +kernel) rfl (Nat.le_of_ble_eq_true rfl) ?_
  show eX0_put 0 [.ref (a0), .int (p0), .int (p1), .int (p2), .int (p3), un] [] σ _
  unfold P_X0_put at hP
  refine E_iload_n dX0_put_0 rfl ?_
  refine E_aload_n dX0_put_1 rfl ?_
  refine E_getR (j := 3) dX0_put_2 o_a0 (by decide) rfl fd_RX0_21 (by decide) ?_
  refine E_iload_n dX0_put_5 rfl ?_
  obtain ⟨hb, hP⟩ := hP
  refine E_iald dX0_put_6 (ar_0_4 o_a0).1 (ar_0_4 o_a0).2 hb ?_
  refine E_callS (As := [.int (p1), .int (gI σ (a0 + 4) p1.toNatClampNeg)]) (rest := []) dX0_put_7 cl_RX0_46 tw_16 ⟨rfl, rfl, Nat.le_of_ble_eq_true rfl, Nat.le_of_ble_eq_true rfl⟩ rfl rfl (Nat.le_of_ble_eq_true rfl) (mt_X0_place _ _ _ _  hP) ?_
  intro r0 s0 hq0; obtain ⟨r7, h0, hs0, hP⟩ := hq0; subst h0; rw [hs0]
  show eX0_put 10 [.ref (a0), .int (p0), .int (p1), .int (p2), .int (p3), un] [.int (r7)] σ _
  refine E_istore (ls' := [.ref (a0), .int (p0), .int (p1), .int (p2), .int (p3), .int (r7)]) dX0_put_10 (by decide) rfl ?_
  refine E_aload_n dX0_put_12 rfl ?_
  refine E_getR (j := 0) dX0_put_13 o_a0 (by decide) rfl fd_RX0_9 (by decide) ?_
  refine E_iload dX0_put_16 rfl ?_
  refine E_iload_n dX0_put_18 rfl ?_
  obtain ⟨hb, hP⟩ := hP
  refine E_iast dX0_put_19 (ar_0_1 o_a0).1 (ar_0_1 o_a0).2 hb ?_
  refine E_aload_n dX0_put_20 rfl ?_
  refine E_getR (j := 1) dX0_put_21 o_a0 (by decide) rfl fd_RX0_15 (by decide) ?_
  refine E_iload dX0_put_24 rfl ?_
  refine E_iload_n dX0_put_26 rfl ?_
  obtain ⟨hb, hP⟩ := hP
  refine E_iast dX0_put_27 (ar_0_2 o_a0).1 (ar_0_2 o_a0).2 hb ?_
  refine E_aload_n dX0_put_28 rfl ?_
  refine E_getR (j := 2) dX0_put_29 o_a0 (by decide) rfl fd_RX0_18 (by decide) ?_
  refine E_iload dX0_put_32 rfl ?_
  refine E_iload dX0_put_34 rfl ?_
  obtain ⟨hb, hP⟩ := hP
  refine E_iast dX0_put_36 (ar_0_3 o_a0).1 (ar_0_3 o_a0).2 hb ?_
  refine E_aload_n dX0_put_37 rfl ?_
  refine E_getR (j := 3) dX0_put_38 o_a0 (by decide) rfl fd_RX0_21 (by decide) ?_
  refine E_iload_n dX0_put_41 rfl ?_
  refine E_dup2 dX0_put_42 rfl rfl ?_
  obtain ⟨hb, hP⟩ := hP
  refine E_iald dX0_put_43 (ar_0_4 o_a0).1 (ar_0_4 o_a0).2 hb ?_
  refine E_iconst (v := 1) dX0_put_44 (by decide) ?_
  refine E_iadd dX0_put_45 ?_
  obtain ⟨hb, hP⟩ := hP
  refine E_iast dX0_put_46 (ar_0_4 o_a0).1 (ar_0_4 o_a0).2 hb ?_
  exact E_vret dX0_put_47 rfl ⟨rfl, hP⟩
theorem dX0_coinOf_0 : decode cX0_coinOf 0 = .ok (.iload_n 1, 1) := by decide +kernel
theorem dX0_coinOf_1 : decode cX0_coinOf 1 = .ok (.iload_n 2, 1) := by decide +kernel
theorem dX0_coinOf_2 : decode cX0_coinOf 2 = .ok (.invokestatic 46, 3) := by decide +kernel
theorem dX0_coinOf_5 : decode cX0_coinOf 5 = .ok (.istore_n 3, 1) := by decide +kernel
theorem dX0_coinOf_6 : decode cX0_coinOf 6 = .ok (.aload_n 0, 1) := by decide +kernel
theorem dX0_coinOf_7 : decode cX0_coinOf 7 = .ok (.getfield 9, 3) := by decide +kernel
theorem dX0_coinOf_10 : decode cX0_coinOf 10 = .ok (.iload_n 3, 1) := by decide +kernel
theorem dX0_coinOf_11 : decode cX0_coinOf 11 = .ok (.iaload, 1) := by decide +kernel
theorem dX0_coinOf_12 : decode cX0_coinOf 12 = .ok (.tableswitch 67 1 5 #[36, 56, 67, 45, 65], 36) := by decide +kernel
theorem dX0_coinOf_48 : decode cX0_coinOf 48 = .ok (.aload_n 0, 1) := by decide +kernel
theorem dX0_coinOf_49 : decode cX0_coinOf 49 = .ok (.getfield 18, 3) := by decide +kernel
theorem dX0_coinOf_52 : decode cX0_coinOf 52 = .ok (.iload_n 3, 1) := by decide +kernel
theorem dX0_coinOf_53 : decode cX0_coinOf 53 = .ok (.iaload, 1) := by decide +kernel
theorem dX0_coinOf_54 : decode cX0_coinOf 54 = .ok (.iconst 5, 1) := by decide +kernel
theorem dX0_coinOf_55 : decode cX0_coinOf 55 = .ok (.iadd, 1) := by decide +kernel
theorem dX0_coinOf_56 : decode cX0_coinOf 56 = .ok (.ireturn, 1) := by decide +kernel
theorem dX0_coinOf_57 : decode cX0_coinOf 57 = .ok (.iconst 2, 1) := by decide +kernel
theorem dX0_coinOf_58 : decode cX0_coinOf 58 = .ok (.aload_n 0, 1) := by decide +kernel
theorem dX0_coinOf_59 : decode cX0_coinOf 59 = .ok (.getfield 18, 3) := by decide +kernel
theorem dX0_coinOf_62 : decode cX0_coinOf 62 = .ok (.iload_n 3, 1) := by decide +kernel
theorem dX0_coinOf_63 : decode cX0_coinOf 63 = .ok (.iaload, 1) := by decide +kernel
theorem dX0_coinOf_64 : decode cX0_coinOf 64 = .ok (.iconst 5, 1) := by decide +kernel
theorem dX0_coinOf_65 : decode cX0_coinOf 65 = .ok (.iadd, 1) := by decide +kernel
theorem dX0_coinOf_66 : decode cX0_coinOf 66 = .ok (.imul, 1) := by decide +kernel
theorem dX0_coinOf_67 : decode cX0_coinOf 67 = .ok (.ireturn, 1) := by decide +kernel
theorem dX0_coinOf_68 : decode cX0_coinOf 68 = .ok (.aload_n 0, 1) := by decide +kernel
theorem dX0_coinOf_69 : decode cX0_coinOf 69 = .ok (.getfield 18, 3) := by decide +kernel
theorem dX0_coinOf_72 : decode cX0_coinOf 72 = .ok (.iload_n 3, 1) := by decide +kernel
theorem dX0_coinOf_73 : decode cX0_coinOf 73 = .ok (.iaload, 1) := by decide +kernel
theorem dX0_coinOf_74 : decode cX0_coinOf 74 = .ok (.iconst 2, 1) := by decide +kernel
theorem dX0_coinOf_75 : decode cX0_coinOf 75 = .ok (.idiv, 1) := by decide +kernel
theorem dX0_coinOf_76 : decode cX0_coinOf 76 = .ok (.ireturn, 1) := by decide +kernel
theorem dX0_coinOf_77 : decode cX0_coinOf 77 = .ok (.iconst 0, 1) := by decide +kernel
theorem dX0_coinOf_78 : decode cX0_coinOf 78 = .ok (.ireturn, 1) := by decide +kernel
theorem dX0_coinOf_79 : decode cX0_coinOf 79 = .ok (.aload_n 0, 1) := by decide +kernel
theorem dX0_coinOf_80 : decode cX0_coinOf 80 = .ok (.getfield 18, 3) := by decide +kernel
theorem dX0_coinOf_83 : decode cX0_coinOf 83 = .ok (.iload_n 3, 1) := by decide +kernel
theorem dX0_coinOf_84 : decode cX0_coinOf 84 = .ok (.iaload, 1) := by decide +kernel
theorem dX0_coinOf_85 : decode cX0_coinOf 85 = .ok (.ireturn, 1) := by decide +kernel
def rmX0_coinOf : Room := { frames := 1, cells := 0, slots := 0, locals := 21 }
abbrev eX0_coinOf := Ev cX0_coinOf 4 (some .int) RX0 rmX0_coinOf
set_option maxRecDepth 20000 in
theorem mt_X0_coinOf (a0 : Nat) (p0 : Int32) (p1 : Int32) (σ : St) (Q : Int32 → Prop) (o_a0 : kd a0 = 0) (hP : P_X0_coinOf a0 p0 p1 σ Q) : Mt yX0_coinOf cX0_coinOf 4 (some .int) rmX0_coinOf [.ref (a0), .int (p0), .int (p1)] σ (qI fun x s => s = σ ∧ Q x) := by
  refine Mt.of (k := 1) (ls := [.ref (a0), .int (p0), .int (p1), un]) (by decide +kernel) rfl (Nat.le_of_ble_eq_true rfl) ?_
  show eX0_coinOf 0 [.ref (a0), .int (p0), .int (p1), un] [] σ _
  unfold P_X0_coinOf at hP
  refine E_iload_n dX0_coinOf_0 rfl ?_
  refine E_iload_n dX0_coinOf_1 rfl ?_
  refine E_callS (As := [.int (p0), .int (p1)]) (rest := []) dX0_coinOf_2 cl_RX0_46 tw_16 ⟨rfl, rfl, Nat.le_of_ble_eq_true rfl, Nat.le_of_ble_eq_true rfl⟩ rfl rfl (Nat.le_of_ble_eq_true rfl) (mt_X0_place _ _ _ _  hP) ?_
  intro r0 s0 hq0; obtain ⟨r2, h0, hs0, hP⟩ := hq0; subst h0; rw [hs0]
  show eX0_coinOf 5 [.ref (a0), .int (p0), .int (p1), un] [.int (r2)] σ _
  refine E_istore_n (ls' := [.ref (a0), .int (p0), .int (p1), .int (r2)]) dX0_coinOf_5 (by decide) rfl ?_
  refine E_aload_n dX0_coinOf_6 rfl ?_
  refine E_getR (j := 0) dX0_coinOf_7 o_a0 (by decide) rfl fd_RX0_9 (by decide) ?_
  refine E_iload_n dX0_coinOf_10 rfl ?_
  obtain ⟨hb, hP⟩ := hP
  refine E_iald dX0_coinOf_11 (ar_0_1 o_a0).1 (ar_0_1 o_a0).2 hb ?_
  refine E_tsw [(1, 48), (2, 68), (3, 79), (4, 57), (5, 77)] 79 dX0_coinOf_12 (by decide) (by decide) (by decide +kernel) (by decide +kernel) (List.forall_mem_cons.mpr ⟨fun hc => ?_, (List.forall_mem_cons.mpr ⟨fun hc => ?_, (List.forall_mem_cons.mpr ⟨fun hc => ?_, (List.forall_mem_cons.mpr ⟨fun hc => ?_, (List.forall_mem_cons.mpr ⟨fun hc => ?_, (fun q hq => absurd hq List.not_mem_nil)⟩)⟩)⟩)⟩)⟩) (fun hc => ?_)
  · replace hP := hP.1 hc
    refine E_aload_n dX0_coinOf_48 rfl ?_
    refine E_getR (j := 2) dX0_coinOf_49 o_a0 (by decide) rfl fd_RX0_18 (by decide) ?_
    refine E_iload_n dX0_coinOf_52 rfl ?_
    obtain ⟨hb, hP⟩ := hP
    refine E_iald dX0_coinOf_53 (ar_0_3 o_a0).1 (ar_0_3 o_a0).2 hb ?_
    refine E_iconst (v := 5) dX0_coinOf_54 (by decide) ?_
    refine E_iadd dX0_coinOf_55 ?_
    exact E_iret dX0_coinOf_56 rfl ⟨_, rfl, rfl, hP⟩
  · replace hP := hP.2.1 hc
    refine E_aload_n dX0_coinOf_68 rfl ?_
    refine E_getR (j := 2) dX0_coinOf_69 o_a0 (by decide) rfl fd_RX0_18 (by decide) ?_
    refine E_iload_n dX0_coinOf_72 rfl ?_
    obtain ⟨hb, hP⟩ := hP
    refine E_iald dX0_coinOf_73 (ar_0_3 o_a0).1 (ar_0_3 o_a0).2 hb ?_
    refine E_iconst (v := 2) dX0_coinOf_74 (by decide) ?_
    refine E_idiv dX0_coinOf_75 (by decide) ?_
    exact E_iret dX0_coinOf_76 rfl ⟨_, rfl, rfl, hP⟩
  · replace hP := hP.2.2.1 hc
    refine E_aload_n dX0_coinOf_79 rfl ?_
    refine E_getR (j := 2) dX0_coinOf_80 o_a0 (by decide) rfl fd_RX0_18 (by decide) ?_
    refine E_iload_n dX0_coinOf_83 rfl ?_
    obtain ⟨hb, hP⟩ := hP
    refine E_iald dX0_coinOf_84 (ar_0_3 o_a0).1 (ar_0_3 o_a0).2 hb ?_
    exact E_iret dX0_coinOf_85 rfl ⟨_, rfl, rfl, hP⟩
  · replace hP := hP.2.2.2.1 hc
    refine E_iconst (v := 2) dX0_coinOf_57 (by decide) ?_
    refine E_aload_n dX0_coinOf_58 rfl ?_
    refine E_getR (j := 2) dX0_coinOf_59 o_a0 (by decide) rfl fd_RX0_18 (by decide) ?_
    refine E_iload_n dX0_coinOf_62 rfl ?_
    obtain ⟨hb, hP⟩ := hP
    refine E_iald dX0_coinOf_63 (ar_0_3 o_a0).1 (ar_0_3 o_a0).2 hb ?_
    refine E_iconst (v := 5) dX0_coinOf_64 (by decide) ?_
    refine E_iadd dX0_coinOf_65 ?_
    refine E_imul dX0_coinOf_66 ?_
    exact E_iret dX0_coinOf_67 rfl ⟨_, rfl, rfl, hP⟩
  · replace hP := hP.2.2.2.2.1 hc
    refine E_iconst (v := 0) dX0_coinOf_77 (by decide) ?_
    exact E_iret dX0_coinOf_78 rfl ⟨_, rfl, rfl, hP⟩
  · replace hP := hP.2.2.2.2.2 ⟨hc (1, 48) (List.mem_of_getElem? (i := 0) rfl), hc (2, 68) (List.mem_of_getElem? (i := 1) rfl), hc (3, 79) (List.mem_of_getElem? (i := 2) rfl), hc (4, 57) (List.mem_of_getElem? (i := 3) rfl), hc (5, 77) (List.mem_of_getElem? (i := 4) rfl)⟩
    refine E_aload_n dX0_coinOf_79 rfl ?_
    refine E_getR (j := 2) dX0_coinOf_80 o_a0 (by decide) rfl fd_RX0_18 (by decide) ?_
    refine E_iload_n dX0_coinOf_83 rfl ?_
    obtain ⟨hb, hP⟩ := hP
    refine E_iald dX0_coinOf_84 (ar_0_3 o_a0).1 (ar_0_3 o_a0).2 hb ?_
    exact E_iret dX0_coinOf_85 rfl ⟨_, rfl, rfl, hP⟩
theorem dX0_takeLowest_0 : decode cX0_takeLowest 0 = .ok (.aload_n 0, 1) := by decide +kernel
theorem dX0_takeLowest_1 : decode cX0_takeLowest 1 = .ok (.ldc 50, 2) := by decide +kernel
theorem dX0_takeLowest_3 : decode cX0_takeLowest 3 = .ok (.aload_n 0, 1) := by decide +kernel
theorem dX0_takeLowest_4 : decode cX0_takeLowest 4 = .ok (.getfield 43, 3) := by decide +kernel
theorem dX0_takeLowest_7 : decode cX0_takeLowest 7 = .ok (.aload_n 0, 1) := by decide +kernel
theorem dX0_takeLowest_8 : decode cX0_takeLowest 8 = .ok (.iload_n 1, 1) := by decide +kernel
theorem dX0_takeLowest_9 : decode cX0_takeLowest 9 = .ok (.iconst 0, 1) := by decide +kernel
theorem dX0_takeLowest_10 : decode cX0_takeLowest 10 = .ok (.invokevirtual 51, 3) := by decide +kernel
theorem dX0_takeLowest_13 : decode cX0_takeLowest 13 = .ok (.iadd, 1) := by decide +kernel
theorem dX0_takeLowest_14 : decode cX0_takeLowest 14 = .ok (.invokestatic 54, 3) := by decide +kernel
theorem dX0_takeLowest_17 : decode cX0_takeLowest 17 = .ok (.putfield 43, 3) := by decide +kernel
theorem dX0_takeLowest_20 : decode cX0_takeLowest 20 = .ok (.aload_n 0, 1) := by decide +kernel
theorem dX0_takeLowest_21 : decode cX0_takeLowest 21 = .ok (.getfield 21, 3) := by decide +kernel
theorem dX0_takeLowest_24 : decode cX0_takeLowest 24 = .ok (.iload_n 1, 1) := by decide +kernel
theorem dX0_takeLowest_25 : decode cX0_takeLowest 25 = .ok (.dup2, 1) := by decide +kernel
theorem dX0_takeLowest_26 : decode cX0_takeLowest 26 = .ok (.iaload, 1) := by decide +kernel
theorem dX0_takeLowest_27 : decode cX0_takeLowest 27 = .ok (.iconst 1, 1) := by decide +kernel
theorem dX0_takeLowest_28 : decode cX0_takeLowest 28 = .ok (.isub, 1) := by decide +kernel
theorem dX0_takeLowest_29 : decode cX0_takeLowest 29 = .ok (.iastore, 1) := by decide +kernel
theorem dX0_takeLowest_30 : decode cX0_takeLowest 30 = .ok (.iload_n 1, 1) := by decide +kernel
theorem dX0_takeLowest_31 : decode cX0_takeLowest 31 = .ok (.iconst 0, 1) := by decide +kernel
theorem dX0_takeLowest_32 : decode cX0_takeLowest 32 = .ok (.invokestatic 46, 3) := by decide +kernel
theorem dX0_takeLowest_35 : decode cX0_takeLowest 35 = .ok (.istore_n 2, 1) := by decide +kernel
theorem dX0_takeLowest_36 : decode cX0_takeLowest 36 = .ok (.aload_n 0, 1) := by decide +kernel
theorem dX0_takeLowest_37 : decode cX0_takeLowest 37 = .ok (.getfield 9, 3) := by decide +kernel
theorem dX0_takeLowest_40 : decode cX0_takeLowest 40 = .ok (.iload_n 2, 1) := by decide +kernel
theorem dX0_takeLowest_41 : decode cX0_takeLowest 41 = .ok (.iconst 1, 1) := by decide +kernel
theorem dX0_takeLowest_42 : decode cX0_takeLowest 42 = .ok (.iadd, 1) := by decide +kernel
theorem dX0_takeLowest_43 : decode cX0_takeLowest 43 = .ok (.aload_n 0, 1) := by decide +kernel
theorem dX0_takeLowest_44 : decode cX0_takeLowest 44 = .ok (.getfield 9, 3) := by decide +kernel
theorem dX0_takeLowest_47 : decode cX0_takeLowest 47 = .ok (.iload_n 2, 1) := by decide +kernel
theorem dX0_takeLowest_48 : decode cX0_takeLowest 48 = .ok (.aload_n 0, 1) := by decide +kernel
theorem dX0_takeLowest_49 : decode cX0_takeLowest 49 = .ok (.getfield 21, 3) := by decide +kernel
theorem dX0_takeLowest_52 : decode cX0_takeLowest 52 = .ok (.iload_n 1, 1) := by decide +kernel
theorem dX0_takeLowest_53 : decode cX0_takeLowest 53 = .ok (.iaload, 1) := by decide +kernel
theorem dX0_takeLowest_54 : decode cX0_takeLowest 54 = .ok (.invokestatic 34, 3) := by decide +kernel
theorem dX0_takeLowest_57 : decode cX0_takeLowest 57 = .ok (.aload_n 0, 1) := by decide +kernel
theorem dX0_takeLowest_58 : decode cX0_takeLowest 58 = .ok (.getfield 15, 3) := by decide +kernel
theorem dX0_takeLowest_61 : decode cX0_takeLowest 61 = .ok (.iload_n 2, 1) := by decide +kernel
theorem dX0_takeLowest_62 : decode cX0_takeLowest 62 = .ok (.iconst 1, 1) := by decide +kernel
theorem dX0_takeLowest_63 : decode cX0_takeLowest 63 = .ok (.iadd, 1) := by decide +kernel
theorem dX0_takeLowest_64 : decode cX0_takeLowest 64 = .ok (.aload_n 0, 1) := by decide +kernel
theorem dX0_takeLowest_65 : decode cX0_takeLowest 65 = .ok (.getfield 15, 3) := by decide +kernel
theorem dX0_takeLowest_68 : decode cX0_takeLowest 68 = .ok (.iload_n 2, 1) := by decide +kernel
theorem dX0_takeLowest_69 : decode cX0_takeLowest 69 = .ok (.aload_n 0, 1) := by decide +kernel
theorem dX0_takeLowest_70 : decode cX0_takeLowest 70 = .ok (.getfield 21, 3) := by decide +kernel
theorem dX0_takeLowest_73 : decode cX0_takeLowest 73 = .ok (.iload_n 1, 1) := by decide +kernel
theorem dX0_takeLowest_74 : decode cX0_takeLowest 74 = .ok (.iaload, 1) := by decide +kernel
theorem dX0_takeLowest_75 : decode cX0_takeLowest 75 = .ok (.invokestatic 34, 3) := by decide +kernel
theorem dX0_takeLowest_78 : decode cX0_takeLowest 78 = .ok (.aload_n 0, 1) := by decide +kernel
theorem dX0_takeLowest_79 : decode cX0_takeLowest 79 = .ok (.getfield 18, 3) := by decide +kernel
theorem dX0_takeLowest_82 : decode cX0_takeLowest 82 = .ok (.iload_n 2, 1) := by decide +kernel
theorem dX0_takeLowest_83 : decode cX0_takeLowest 83 = .ok (.iconst 1, 1) := by decide +kernel
theorem dX0_takeLowest_84 : decode cX0_takeLowest 84 = .ok (.iadd, 1) := by decide +kernel
theorem dX0_takeLowest_85 : decode cX0_takeLowest 85 = .ok (.aload_n 0, 1) := by decide +kernel
theorem dX0_takeLowest_86 : decode cX0_takeLowest 86 = .ok (.getfield 18, 3) := by decide +kernel
theorem dX0_takeLowest_89 : decode cX0_takeLowest 89 = .ok (.iload_n 2, 1) := by decide +kernel
theorem dX0_takeLowest_90 : decode cX0_takeLowest 90 = .ok (.aload_n 0, 1) := by decide +kernel
theorem dX0_takeLowest_91 : decode cX0_takeLowest 91 = .ok (.getfield 21, 3) := by decide +kernel
theorem dX0_takeLowest_94 : decode cX0_takeLowest 94 = .ok (.iload_n 1, 1) := by decide +kernel
theorem dX0_takeLowest_95 : decode cX0_takeLowest 95 = .ok (.iaload, 1) := by decide +kernel
theorem dX0_takeLowest_96 : decode cX0_takeLowest 96 = .ok (.invokestatic 34, 3) := by decide +kernel
theorem dX0_takeLowest_99 : decode cX0_takeLowest 99 = .ok (.return_, 1) := by decide +kernel
def rmX0_takeLowest : Room := { frames := 2, cells := 0, slots := 0, locals := 44 }
abbrev eX0_takeLowest := Ev cX0_takeLowest 3 none RX0 rmX0_takeLowest
set_option maxRecDepth 20000 in
theorem mt_X0_takeLowest (a0 : Nat) (p0 : Int32) (σ : St) (Q : St → Prop) (o_a0 : kd a0 = 0) (hP : P_X0_takeLowest a0 p0 σ Q) : Mt yX0_takeLowest cX0_takeLowest 3 none rmX0_takeLowest [.ref (a0), .int (p0)] σ (qV Q) := by
  refine Mt.of (k := 1) (ls := [.ref (a0), .int (p0), un]) (by decide +kernel) rfl (Nat.le_of_ble_eq_true rfl) ?_
  show eX0_takeLowest 0 [.ref (a0), .int (p0), un] [] σ _
  unfold P_X0_takeLowest at hP
  refine E_aload_n dX0_takeLowest_0 rfl ?_
  refine E_ldc (v := 999999) dX0_takeLowest_1 tw_17 ?_
  refine E_aload_n dX0_takeLowest_3 rfl ?_
  refine E_getI (j := 8) dX0_takeLowest_4 o_a0 (by decide) rfl fd_RX0_43 ?_
  refine E_aload_n dX0_takeLowest_7 rfl ?_
  refine E_iload_n dX0_takeLowest_8 rfl ?_
  refine E_iconst (v := 0) dX0_takeLowest_9 (by decide) ?_
  refine E_callV (As := [.int (p0), .int (0)]) (rest := [.int (gI σ a0 8), .int (999999), .ref (a0)]) dX0_takeLowest_10 cl_RX0_51 tw_24 o_a0 (by decide) rfl tw_25 ⟨rfl, rfl, Nat.le_of_ble_eq_true rfl, Nat.le_of_ble_eq_true rfl⟩ rfl rfl (Nat.le_of_ble_eq_true rfl) (mt_X0_coinOf _ _ _ _ _ o_a0 hP) ?_
  intro r0 s0 hq0; obtain ⟨r10, h0, hs0, hP⟩ := hq0; subst h0; rw [hs0]
  show eX0_takeLowest 13 [.ref (a0), .int (p0), un] [.int (r10), .int (gI σ a0 8), .int (999999), .ref (a0)] σ _
  refine E_iadd dX0_takeLowest_13 ?_
  refine E_min dX0_takeLowest_14 tw_18 tw_19 tw_20 tw_21 ⟨Nat.le_of_ble_eq_true rfl, Nat.le_of_ble_eq_true rfl⟩ ?_
  refine E_putI (j := 8) dX0_takeLowest_17 o_a0 (by decide) rfl fd_RX0_43 fp_0_8 ?_
  refine E_aload_n dX0_takeLowest_20 rfl ?_
  refine E_getR (j := 3) dX0_takeLowest_21 o_a0 (by decide) rfl fd_RX0_21 (by decide) ?_
  refine E_iload_n dX0_takeLowest_24 rfl ?_
  refine E_dup2 dX0_takeLowest_25 rfl rfl ?_
  obtain ⟨hb, hP⟩ := hP
  refine E_iald dX0_takeLowest_26 (ar_0_4 o_a0).1 (ar_0_4 o_a0).2 hb ?_
  refine E_iconst (v := 1) dX0_takeLowest_27 (by decide) ?_
  refine E_isub dX0_takeLowest_28 ?_
  obtain ⟨hb, hP⟩ := hP
  refine E_iast dX0_takeLowest_29 (ar_0_4 o_a0).1 (ar_0_4 o_a0).2 hb ?_
  refine E_nm (fun s29 hs29 => ?_)
  replace hP := hP s29 hs29
  refine E_iload_n dX0_takeLowest_30 rfl ?_
  refine E_iconst (v := 0) dX0_takeLowest_31 (by decide) ?_
  refine E_callS (As := [.int (p0), .int (0)]) (rest := []) dX0_takeLowest_32 cl_RX0_46 tw_16 ⟨rfl, rfl, Nat.le_of_ble_eq_true rfl, Nat.le_of_ble_eq_true rfl⟩ rfl rfl (Nat.le_of_ble_eq_true rfl) (mt_X0_place _ _ _ _  hP) ?_
  intro r0 s0 hq0; obtain ⟨r32, h0, hs0, hP⟩ := hq0; subst h0; rw [hs0]
  show eX0_takeLowest 35 [.ref (a0), .int (p0), un] [.int (r32)] s29 _
  refine E_istore_n (ls' := [.ref (a0), .int (p0), .int (r32)]) dX0_takeLowest_35 (by decide) rfl ?_
  refine E_aload_n dX0_takeLowest_36 rfl ?_
  refine E_getR (j := 0) dX0_takeLowest_37 o_a0 (by decide) rfl fd_RX0_9 (by decide) ?_
  refine E_iload_n dX0_takeLowest_40 rfl ?_
  refine E_iconst (v := 1) dX0_takeLowest_41 (by decide) ?_
  refine E_iadd dX0_takeLowest_42 ?_
  refine E_aload_n dX0_takeLowest_43 rfl ?_
  refine E_getR (j := 0) dX0_takeLowest_44 o_a0 (by decide) rfl fd_RX0_9 (by decide) ?_
  refine E_iload_n dX0_takeLowest_47 rfl ?_
  refine E_aload_n dX0_takeLowest_48 rfl ?_
  refine E_getR (j := 3) dX0_takeLowest_49 o_a0 (by decide) rfl fd_RX0_21 (by decide) ?_
  refine E_iload_n dX0_takeLowest_52 rfl ?_
  obtain ⟨hb, hP⟩ := hP
  refine E_iald dX0_takeLowest_53 (ar_0_4 o_a0).1 (ar_0_4 o_a0).2 hb ?_
  obtain ⟨hb, hP⟩ := hP
  refine E_cpI dX0_takeLowest_54 tw_9 tw_10 tw_11 tw_12 (ar_0_1 o_a0).1 (ar_0_1 o_a0).2 (ar_0_1 o_a0).1 (ar_0_1 o_a0).2 ⟨Nat.le_of_ble_eq_true rfl, Nat.le_of_ble_eq_true rfl⟩ hb.1 hb.2.1 hb.2.2.1 hb.2.2.2.1 hb.2.2.2.2 ?_
  refine E_nm (fun s54 hs54 => ?_)
  replace hP := hP s54 hs54
  refine E_aload_n dX0_takeLowest_57 rfl ?_
  refine E_getR (j := 1) dX0_takeLowest_58 o_a0 (by decide) rfl fd_RX0_15 (by decide) ?_
  refine E_iload_n dX0_takeLowest_61 rfl ?_
  refine E_iconst (v := 1) dX0_takeLowest_62 (by decide) ?_
  refine E_iadd dX0_takeLowest_63 ?_
  refine E_aload_n dX0_takeLowest_64 rfl ?_
  refine E_getR (j := 1) dX0_takeLowest_65 o_a0 (by decide) rfl fd_RX0_15 (by decide) ?_
  refine E_iload_n dX0_takeLowest_68 rfl ?_
  refine E_aload_n dX0_takeLowest_69 rfl ?_
  refine E_getR (j := 3) dX0_takeLowest_70 o_a0 (by decide) rfl fd_RX0_21 (by decide) ?_
  refine E_iload_n dX0_takeLowest_73 rfl ?_
  obtain ⟨hb, hP⟩ := hP
  refine E_iald dX0_takeLowest_74 (ar_0_4 o_a0).1 (ar_0_4 o_a0).2 hb ?_
  obtain ⟨hb, hP⟩ := hP
  refine E_cpI dX0_takeLowest_75 tw_9 tw_10 tw_11 tw_12 (ar_0_2 o_a0).1 (ar_0_2 o_a0).2 (ar_0_2 o_a0).1 (ar_0_2 o_a0).2 ⟨Nat.le_of_ble_eq_true rfl, Nat.le_of_ble_eq_true rfl⟩ hb.1 hb.2.1 hb.2.2.1 hb.2.2.2.1 hb.2.2.2.2 ?_
  refine E_nm (fun s75 hs75 => ?_)
  replace hP := hP s75 hs75
  refine E_aload_n dX0_takeLowest_78 rfl ?_
  refine E_getR (j := 2) dX0_takeLowest_79 o_a0 (by decide) rfl fd_RX0_18 (by decide) ?_
  refine E_iload_n dX0_takeLowest_82 rfl ?_
  refine E_iconst (v := 1) dX0_takeLowest_83 (by decide) ?_
  refine E_iadd dX0_takeLowest_84 ?_
  refine E_aload_n dX0_takeLowest_85 rfl ?_
  refine E_getR (j := 2) dX0_takeLowest_86 o_a0 (by decide) rfl fd_RX0_18 (by decide) ?_
  refine E_iload_n dX0_takeLowest_89 rfl ?_
  refine E_aload_n dX0_takeLowest_90 rfl ?_
  refine E_getR (j := 3) dX0_takeLowest_91 o_a0 (by decide) rfl fd_RX0_21 (by decide) ?_
  refine E_iload_n dX0_takeLowest_94 rfl ?_
  obtain ⟨hb, hP⟩ := hP
  refine E_iald dX0_takeLowest_95 (ar_0_4 o_a0).1 (ar_0_4 o_a0).2 hb ?_
  obtain ⟨hb, hP⟩ := hP
  refine E_cpI dX0_takeLowest_96 tw_9 tw_10 tw_11 tw_12 (ar_0_3 o_a0).1 (ar_0_3 o_a0).2 (ar_0_3 o_a0).1 (ar_0_3 o_a0).2 ⟨Nat.le_of_ble_eq_true rfl, Nat.le_of_ble_eq_true rfl⟩ hb.1 hb.2.1 hb.2.2.1 hb.2.2.2.1 hb.2.2.2.2 ?_
  exact E_vret dX0_takeLowest_99 rfl ⟨rfl, hP⟩
theorem dX0_layBeam_0 : decode cX0_layBeam 0 = .ok (.iconst 1, 1) := by decide +kernel
theorem dX0_layBeam_1 : decode cX0_layBeam 1 = .ok (.iload_n 1, 1) := by decide +kernel
theorem dX0_layBeam_2 : decode cX0_layBeam 2 = .ok (.ishl, 1) := by decide +kernel
theorem dX0_layBeam_3 : decode cX0_layBeam 3 = .ok (.istore_n 3, 1) := by decide +kernel
theorem dX0_layBeam_4 : decode cX0_layBeam 4 = .ok (.aload_n 0, 1) := by decide +kernel
theorem dX0_layBeam_5 : decode cX0_layBeam 5 = .ok (.iload_n 2, 1) := by decide +kernel
theorem dX0_layBeam_6 : decode cX0_layBeam 6 = .ok (.ifCond .eq 12, 3) := by decide +kernel
theorem dX0_layBeam_9 : decode cX0_layBeam 9 = .ok (.aload_n 0, 1) := by decide +kernel
theorem dX0_layBeam_10 : decode cX0_layBeam 10 = .ok (.getfield 27, 3) := by decide +kernel
theorem dX0_layBeam_13 : decode cX0_layBeam 13 = .ok (.iload_n 3, 1) := by decide +kernel
theorem dX0_layBeam_14 : decode cX0_layBeam 14 = .ok (.ior, 1) := by decide +kernel
theorem dX0_layBeam_15 : decode cX0_layBeam 15 = .ok (.goto 11, 3) := by decide +kernel
theorem dX0_layBeam_18 : decode cX0_layBeam 18 = .ok (.aload_n 0, 1) := by decide +kernel
theorem dX0_layBeam_19 : decode cX0_layBeam 19 = .ok (.getfield 27, 3) := by decide +kernel
theorem dX0_layBeam_22 : decode cX0_layBeam 22 = .ok (.iload_n 3, 1) := by decide +kernel
theorem dX0_layBeam_23 : decode cX0_layBeam 23 = .ok (.iconst (-1), 1) := by decide +kernel
theorem dX0_layBeam_24 : decode cX0_layBeam 24 = .ok (.ixor, 1) := by decide +kernel
theorem dX0_layBeam_25 : decode cX0_layBeam 25 = .ok (.iand, 1) := by decide +kernel
theorem dX0_layBeam_26 : decode cX0_layBeam 26 = .ok (.putfield 27, 3) := by decide +kernel
theorem dX0_layBeam_29 : decode cX0_layBeam 29 = .ok (.return_, 1) := by decide +kernel
def rmX0_layBeam : Room := { frames := 0, cells := 0, slots := 0, locals := 0 }
abbrev eX0_layBeam := Ev cX0_layBeam 4 none RX0 rmX0_layBeam
set_option maxRecDepth 20000 in
theorem mt_X0_layBeam (a0 : Nat) (p0 : Int32) (p1 : Bool) (σ : St) (Q : St → Prop) (o_a0 : kd a0 = 0) (hP : P_X0_layBeam a0 p0 p1 σ Q) : Mt yX0_layBeam cX0_layBeam 4 none rmX0_layBeam [.ref (a0), .int (p0), .int (bI p1)] σ (qV Q) := by
  refine Mt.of (k := 1) (ls := [.ref (a0), .int (p0), .int (bI p1), un]) (by decide +kernel) rfl (Nat.le_of_ble_eq_true rfl) ?_
  show eX0_layBeam 0 [.ref (a0), .int (p0), .int (bI p1), un] [] σ _
  unfold P_X0_layBeam at hP
  refine E_iconst (v := 1) dX0_layBeam_0 (by decide) ?_
  refine E_iload_n dX0_layBeam_1 rfl ?_
  refine E_ishl dX0_layBeam_2 ?_
  refine E_istore_n (ls' := [.ref (a0), .int (p0), .int (bI p1), .int (1 <<< (p0 &&& 31))]) dX0_layBeam_3 (by decide) rfl ?_
  refine E_aload_n dX0_layBeam_4 rfl ?_
  refine E_iload_n dX0_layBeam_5 rfl ?_
  refine E_ifz_eq 18 dX0_layBeam_6 (by decide) (fun hc => ?_) (fun hc => ?_)
  · replace hP := hP.1 hc
    refine E_aload_n dX0_layBeam_18 rfl ?_
    refine E_getI (j := 5) dX0_layBeam_19 o_a0 (by decide) rfl fd_RX0_27 ?_
    refine E_iload_n dX0_layBeam_22 rfl ?_
    refine E_iconst (v := (-1)) dX0_layBeam_23 (by decide) ?_
    refine E_ixor dX0_layBeam_24 ?_
    refine E_iand dX0_layBeam_25 ?_
    refine E_putI (j := 5) dX0_layBeam_26 o_a0 (by decide) rfl fd_RX0_27 fp_0_5 ?_
    exact E_vret dX0_layBeam_29 rfl ⟨rfl, hP⟩
  · replace hP := hP.2 hc
    refine E_aload_n dX0_layBeam_9 rfl ?_
    refine E_getI (j := 5) dX0_layBeam_10 o_a0 (by decide) rfl fd_RX0_27 ?_
    refine E_iload_n dX0_layBeam_13 rfl ?_
    refine E_ior dX0_layBeam_14 ?_
    refine E_goto 26 dX0_layBeam_15 (by decide) ?_
    refine E_putI (j := 5) dX0_layBeam_26 o_a0 (by decide) rfl fd_RX0_27 fp_0_5 ?_
    exact E_vret dX0_layBeam_29 rfl ⟨rfl, hP⟩
theorem dX0_tallOf_0 : decode cX0_tallOf 0 = .ok (.iload_n 1, 1) := by decide +kernel
theorem dX0_tallOf_1 : decode cX0_tallOf 1 = .ok (.iload_n 2, 1) := by decide +kernel
theorem dX0_tallOf_2 : decode cX0_tallOf 2 = .ok (.invokestatic 46, 3) := by decide +kernel
theorem dX0_tallOf_5 : decode cX0_tallOf 5 = .ok (.istore_n 3, 1) := by decide +kernel
theorem dX0_tallOf_6 : decode cX0_tallOf 6 = .ok (.iconst 1, 1) := by decide +kernel
theorem dX0_tallOf_7 : decode cX0_tallOf 7 = .ok (.aload_n 0, 1) := by decide +kernel
theorem dX0_tallOf_8 : decode cX0_tallOf 8 = .ok (.getfield 15, 3) := by decide +kernel
theorem dX0_tallOf_11 : decode cX0_tallOf 11 = .ok (.iload_n 3, 1) := by decide +kernel
theorem dX0_tallOf_12 : decode cX0_tallOf 12 = .ok (.iaload, 1) := by decide +kernel
theorem dX0_tallOf_13 : decode cX0_tallOf 13 = .ok (.aload_n 0, 1) := by decide +kernel
theorem dX0_tallOf_14 : decode cX0_tallOf 14 = .ok (.getfield 40, 3) := by decide +kernel
theorem dX0_tallOf_17 : decode cX0_tallOf 17 = .ok (.isub, 1) := by decide +kernel
theorem dX0_tallOf_18 : decode cX0_tallOf 18 = .ok (.invokestatic 59, 3) := by decide +kernel
theorem dX0_tallOf_21 : decode cX0_tallOf 21 = .ok (.istore 4, 2) := by decide +kernel
theorem dX0_tallOf_23 : decode cX0_tallOf 23 = .ok (.aload_n 0, 1) := by decide +kernel
theorem dX0_tallOf_24 : decode cX0_tallOf 24 = .ok (.getfield 9, 3) := by decide +kernel
theorem dX0_tallOf_27 : decode cX0_tallOf 27 = .ok (.iload_n 3, 1) := by decide +kernel
theorem dX0_tallOf_28 : decode cX0_tallOf 28 = .ok (.iaload, 1) := by decide +kernel
theorem dX0_tallOf_29 : decode cX0_tallOf 29 = .ok (.lookupswitch 35 #[(2, 27), (5, 30)], 27) := by decide +kernel
theorem dX0_tallOf_56 : decode cX0_tallOf 56 = .ok (.iload 4, 2) := by decide +kernel
theorem dX0_tallOf_58 : decode cX0_tallOf 58 = .ok (.ireturn, 1) := by decide +kernel
theorem dX0_tallOf_59 : decode cX0_tallOf 59 = .ok (.iload 4, 2) := by decide +kernel
theorem dX0_tallOf_61 : decode cX0_tallOf 61 = .ok (.iconst 2, 1) := by decide +kernel
theorem dX0_tallOf_62 : decode cX0_tallOf 62 = .ok (.idiv, 1) := by decide +kernel
theorem dX0_tallOf_63 : decode cX0_tallOf 63 = .ok (.ireturn, 1) := by decide +kernel
theorem dX0_tallOf_64 : decode cX0_tallOf 64 = .ok (.aload_n 0, 1) := by decide +kernel
theorem dX0_tallOf_65 : decode cX0_tallOf 65 = .ok (.getfield 15, 3) := by decide +kernel
theorem dX0_tallOf_68 : decode cX0_tallOf 68 = .ok (.iload_n 3, 1) := by decide +kernel
theorem dX0_tallOf_69 : decode cX0_tallOf 69 = .ok (.iaload, 1) := by decide +kernel
theorem dX0_tallOf_70 : decode cX0_tallOf 70 = .ok (.ireturn, 1) := by decide +kernel
def rmX0_tallOf : Room := { frames := 1, cells := 0, slots := 0, locals := 26 }
abbrev eX0_tallOf := Ev cX0_tallOf 5 (some .int) RX0 rmX0_tallOf
set_option maxRecDepth 20000 in
theorem mt_X0_tallOf (a0 : Nat) (p0 : Int32) (p1 : Int32) (σ : St) (Q : Int32 → Prop) (o_a0 : kd a0 = 0) (hP : P_X0_tallOf a0 p0 p1 σ Q) : Mt yX0_tallOf cX0_tallOf 5 (some .int) rmX0_tallOf [.ref (a0), .int (p0), .int (p1)] σ (qI fun x s => s = σ ∧ Q x) := by
  refine Mt.of (k := 2) (ls := [.ref (a0), .int (p0), .int (p1), un, un]) (by decide +kernel) rfl (Nat.le_of_ble_eq_true rfl) ?_
  show eX0_tallOf 0 [.ref (a0), .int (p0), .int (p1), un, un] [] σ _
  unfold P_X0_tallOf at hP
  refine E_iload_n dX0_tallOf_0 rfl ?_
  refine E_iload_n dX0_tallOf_1 rfl ?_
  refine E_callS (As := [.int (p0), .int (p1)]) (rest := []) dX0_tallOf_2 cl_RX0_46 tw_16 ⟨rfl, rfl, Nat.le_of_ble_eq_true rfl, Nat.le_of_ble_eq_true rfl⟩ rfl rfl (Nat.le_of_ble_eq_true rfl) (mt_X0_place _ _ _ _  hP) ?_
  intro r0 s0 hq0; obtain ⟨r2, h0, hs0, hP⟩ := hq0; subst h0; rw [hs0]
  show eX0_tallOf 5 [.ref (a0), .int (p0), .int (p1), un, un] [.int (r2)] σ _
  refine E_istore_n (ls' := [.ref (a0), .int (p0), .int (p1), .int (r2), un]) dX0_tallOf_5 (by decide) rfl ?_
  refine E_iconst (v := 1) dX0_tallOf_6 (by decide) ?_
  refine E_aload_n dX0_tallOf_7 rfl ?_
  refine E_getR (j := 1) dX0_tallOf_8 o_a0 (by decide) rfl fd_RX0_15 (by decide) ?_
  refine E_iload_n dX0_tallOf_11 rfl ?_
  obtain ⟨hb, hP⟩ := hP
  refine E_iald dX0_tallOf_12 (ar_0_2 o_a0).1 (ar_0_2 o_a0).2 hb ?_
  refine E_aload_n dX0_tallOf_13 rfl ?_
  refine E_getI (j := 7) dX0_tallOf_14 o_a0 (by decide) rfl fd_RX0_40 ?_
  refine E_isub dX0_tallOf_17 ?_
  refine E_max dX0_tallOf_18 tw_26 tw_27 tw_20 tw_28 ⟨Nat.le_of_ble_eq_true rfl, Nat.le_of_ble_eq_true rfl⟩ ?_
  refine E_istore (ls' := [.ref (a0), .int (p0), .int (p1), .int (r2), .int (mxI 1 ((gI σ (a0 + 2) r2.toNatClampNeg) - (gI σ a0 7)))]) dX0_tallOf_21 (by decide) rfl ?_
  refine E_aload_n dX0_tallOf_23 rfl ?_
  refine E_getR (j := 0) dX0_tallOf_24 o_a0 (by decide) rfl fd_RX0_9 (by decide) ?_
  refine E_iload_n dX0_tallOf_27 rfl ?_
  obtain ⟨hb, hP⟩ := hP
  refine E_iald dX0_tallOf_28 (ar_0_1 o_a0).1 (ar_0_1 o_a0).2 hb ?_
  refine E_lsw [(2, 56), (5, 59)] 64 dX0_tallOf_29 (by decide +kernel) (by decide) (by decide +kernel) (List.forall_mem_cons.mpr ⟨fun hc => ?_, (List.forall_mem_cons.mpr ⟨fun hc => ?_, (fun q hq => absurd hq List.not_mem_nil)⟩)⟩) (fun hc => ?_)
  · replace hP := hP.1 hc
    refine E_iload dX0_tallOf_56 rfl ?_
    exact E_iret dX0_tallOf_58 rfl ⟨_, rfl, rfl, hP⟩
  · replace hP := hP.2.1 hc
    refine E_iload dX0_tallOf_59 rfl ?_
    refine E_iconst (v := 2) dX0_tallOf_61 (by decide) ?_
    refine E_idiv dX0_tallOf_62 (by decide) ?_
    exact E_iret dX0_tallOf_63 rfl ⟨_, rfl, rfl, hP⟩
  · replace hP := hP.2.2 ⟨hc (2, 56) (List.mem_of_getElem? (i := 0) rfl), hc (5, 59) (List.mem_of_getElem? (i := 1) rfl)⟩
    refine E_aload_n dX0_tallOf_64 rfl ?_
    refine E_getR (j := 1) dX0_tallOf_65 o_a0 (by decide) rfl fd_RX0_15 (by decide) ?_
    refine E_iload_n dX0_tallOf_68 rfl ?_
    obtain ⟨hb, hP⟩ := hP
    refine E_iald dX0_tallOf_69 (ar_0_2 o_a0).1 (ar_0_2 o_a0).2 hb ?_
    exact E_iret dX0_tallOf_70 rfl ⟨_, rfl, rfl, hP⟩
theorem dX0_topOf_0 : decode cX0_topOf 0 = .ok (.aload_n 0, 1) := by decide +kernel
theorem dX0_topOf_1 : decode cX0_topOf 1 = .ok (.getfield 24, 3) := by decide +kernel
theorem dX0_topOf_4 : decode cX0_topOf 4 = .ok (.iload_n 1, 1) := by decide +kernel
theorem dX0_topOf_5 : decode cX0_topOf 5 = .ok (.iaload, 1) := by decide +kernel
theorem dX0_topOf_6 : decode cX0_topOf 6 = .ok (.istore_n 2, 1) := by decide +kernel
theorem dX0_topOf_7 : decode cX0_topOf 7 = .ok (.iconst 0, 1) := by decide +kernel
theorem dX0_topOf_8 : decode cX0_topOf 8 = .ok (.istore_n 3, 1) := by decide +kernel
theorem dX0_topOf_9 : decode cX0_topOf 9 = .ok (.iload_n 3, 1) := by decide +kernel
theorem dX0_topOf_10 : decode cX0_topOf 10 = .ok (.aload_n 0, 1) := by decide +kernel
theorem dX0_topOf_11 : decode cX0_topOf 11 = .ok (.getfield 21, 3) := by decide +kernel
theorem dX0_topOf_14 : decode cX0_topOf 14 = .ok (.iload_n 1, 1) := by decide +kernel
theorem dX0_topOf_15 : decode cX0_topOf 15 = .ok (.iaload, 1) := by decide +kernel
theorem dX0_topOf_16 : decode cX0_topOf 16 = .ok (.if_icmp .ge 18, 3) := by decide +kernel
theorem dX0_topOf_19 : decode cX0_topOf 19 = .ok (.iload_n 2, 1) := by decide +kernel
theorem dX0_topOf_20 : decode cX0_topOf 20 = .ok (.aload_n 0, 1) := by decide +kernel
theorem dX0_topOf_21 : decode cX0_topOf 21 = .ok (.iload_n 1, 1) := by decide +kernel
theorem dX0_topOf_22 : decode cX0_topOf 22 = .ok (.iload_n 3, 1) := by decide +kernel
theorem dX0_topOf_23 : decode cX0_topOf 23 = .ok (.invokevirtual 62, 3) := by decide +kernel
theorem dX0_topOf_26 : decode cX0_topOf 26 = .ok (.iadd, 1) := by decide +kernel
theorem dX0_topOf_27 : decode cX0_topOf 27 = .ok (.istore_n 2, 1) := by decide +kernel
theorem dX0_topOf_28 : decode cX0_topOf 28 = .ok (.iinc 3 1, 3) := by decide +kernel
theorem dX0_topOf_31 : decode cX0_topOf 31 = .ok (.goto (-22), 3) := by decide +kernel
theorem dX0_topOf_34 : decode cX0_topOf 34 = .ok (.iload_n 2, 1) := by decide +kernel
theorem dX0_topOf_35 : decode cX0_topOf 35 = .ok (.ireturn, 1) := by decide +kernel
def rmX0_topOf : Room := { frames := 2, cells := 0, slots := 0, locals := 50 }
abbrev eX0_topOf := Ev cX0_topOf 4 (some .int) RX0 rmX0_topOf
set_option maxRecDepth 20000 in
theorem ev_X0_topOf_l9 (l0 : Nat) (l1 : Int32) (o_l0 : kd (l0) = 0) (K : Int32 → St → Prop) (Q : Int32 → Prop) (σ0 : St) (hK : ∀ k2 s, K k2 s → s = σ0 → eX0_topOf 34 [un, un, .int (k2), un] [] s (qI fun x s => s = σ0 ∧ Q x)) : ∀ (n : Nat) (l2 : Int32) (l3 : Int32) (σ : St), σ = σ0 → P_X0_topOf_l9 l0 l1 K Q n l2 l3 σ → eX0_topOf 9 [.ref (l0), .int (l1), .int (l2), .int (l3)] [] σ (qI fun x s => s = σ0 ∧ Q x) := by
  intro n
  induction n with
  | zero => intro l2 l3 σ hs hP; exact hP.elim
  | succ n ih =>
    intro l2 l3 σ hs hP
    subst hs
    rw [P_X0_topOf_l9] at hP
    refine E_iload_n dX0_topOf_9 rfl ?_
    refine E_aload_n dX0_topOf_10 rfl ?_
    refine E_getR (j := 3) dX0_topOf_11 o_l0 (by decide) rfl fd_RX0_21 (by decide) ?_
    refine E_iload_n dX0_topOf_14 rfl ?_
    obtain ⟨hb, hP⟩ := hP
    refine E_iald dX0_topOf_15 (ar_0_4 o_l0).1 (ar_0_4 o_l0).2 hb ?_
    refine E_icmp_ge 34 dX0_topOf_16 (by decide) (fun hc => ?_) (fun hc => ?_)
    · replace hP := hP.1 hc
      refine E_mask [false, false, true, false] rfl ?_
      exact hK (l2) _ hP rfl
    · replace hP := hP.2 hc
      refine E_iload_n dX0_topOf_19 rfl ?_
      refine E_aload_n dX0_topOf_20 rfl ?_
      refine E_iload_n dX0_topOf_21 rfl ?_
      refine E_iload_n dX0_topOf_22 rfl ?_
      refine E_callV (As := [.int (l1), .int (l3)]) (rest := [.int (l2)]) dX0_topOf_23 cl_RX0_62 tw_31 o_l0 (by decide) rfl tw_32 ⟨rfl, rfl, Nat.le_of_ble_eq_true rfl, Nat.le_of_ble_eq_true rfl⟩ rfl rfl (Nat.le_of_ble_eq_true rfl) (mt_X0_tallOf _ _ _ _ _ o_l0 hP) ?_
      intro r0 s0 hq0; obtain ⟨r23, h0, hs0, hP⟩ := hq0; subst h0; rw [hs0]
      show eX0_topOf 26 [.ref (l0), .int (l1), .int (l2), .int (l3)] [.int (r23), .int (l2)] σ _
      refine E_iadd dX0_topOf_26 ?_
      refine E_istore_n (ls' := [.ref (l0), .int (l1), .int (l2 + r23), .int (l3)]) dX0_topOf_27 (by decide) rfl ?_
      refine E_iinc (ls' := [.ref (l0), .int (l1), .int (l2 + r23), .int (l3 + 1)]) dX0_topOf_28 rfl rfl (by decide) rfl ?_
      refine E_goto 9 dX0_topOf_31 (by decide) ?_
      exact ih (l2 + r23) (l3 + 1) _ rfl hP
set_option maxRecDepth 20000 in
theorem mt_X0_topOf (a0 : Nat) (p0 : Int32) (σ : St) (Q : Int32 → Prop) (o_a0 : kd a0 = 0) (hP : P_X0_topOf a0 p0 σ Q) : Mt yX0_topOf cX0_topOf 4 (some .int) rmX0_topOf [.ref (a0), .int (p0)] σ (qI fun x s => s = σ ∧ Q x) := by
  refine Mt.of (k := 2) (ls := [.ref (a0), .int (p0), un, un]) (by decide +kernel) rfl (Nat.le_of_ble_eq_true rfl) ?_
  show eX0_topOf 0 [.ref (a0), .int (p0), un, un] [] σ _
  unfold P_X0_topOf at hP
  refine E_aload_n dX0_topOf_0 rfl ?_
  refine E_getR (j := 4) dX0_topOf_1 o_a0 (by decide) rfl fd_RX0_24 (by decide) ?_
  refine E_iload_n dX0_topOf_4 rfl ?_
  obtain ⟨hb, hP⟩ := hP
  refine E_iald dX0_topOf_5 (ar_0_5 o_a0).1 (ar_0_5 o_a0).2 hb ?_
  refine E_istore_n (ls' := [.ref (a0), .int (p0), .int (gI σ (a0 + 5) p0.toNatClampNeg), un]) dX0_topOf_6 (by decide) rfl ?_
  refine E_iconst (v := 0) dX0_topOf_7 (by decide) ?_
  refine E_istore_n (ls' := [.ref (a0), .int (p0), .int (gI σ (a0 + 5) p0.toNatClampNeg), .int (0)]) dX0_topOf_8 (by decide) rfl ?_
  obtain ⟨m9, hP⟩ := hP
  refine ev_X0_topOf_l9 (a0) (p0) o_a0 _ Q σ ?_ m9 _ _ _ rfl hP
  intro k2 t34 hP hs
  rw [hs]
  refine E_iload_n dX0_topOf_34 rfl ?_
  exact E_iret dX0_topOf_35 rfl ⟨_, rfl, rfl, hP⟩
theorem dX0_coinsOf_0 : decode cX0_coinsOf 0 = .ok (.iconst 0, 1) := by decide +kernel
theorem dX0_coinsOf_1 : decode cX0_coinsOf 1 = .ok (.istore_n 2, 1) := by decide +kernel
theorem dX0_coinsOf_2 : decode cX0_coinsOf 2 = .ok (.iconst 0, 1) := by decide +kernel
theorem dX0_coinsOf_3 : decode cX0_coinsOf 3 = .ok (.istore_n 3, 1) := by decide +kernel
theorem dX0_coinsOf_4 : decode cX0_coinsOf 4 = .ok (.iload_n 3, 1) := by decide +kernel
theorem dX0_coinsOf_5 : decode cX0_coinsOf 5 = .ok (.aload_n 0, 1) := by decide +kernel
theorem dX0_coinsOf_6 : decode cX0_coinsOf 6 = .ok (.getfield 21, 3) := by decide +kernel
theorem dX0_coinsOf_9 : decode cX0_coinsOf 9 = .ok (.iload_n 1, 1) := by decide +kernel
theorem dX0_coinsOf_10 : decode cX0_coinsOf 10 = .ok (.iaload, 1) := by decide +kernel
theorem dX0_coinsOf_11 : decode cX0_coinsOf 11 = .ok (.if_icmp .ge 18, 3) := by decide +kernel
theorem dX0_coinsOf_14 : decode cX0_coinsOf 14 = .ok (.iload_n 2, 1) := by decide +kernel
theorem dX0_coinsOf_15 : decode cX0_coinsOf 15 = .ok (.aload_n 0, 1) := by decide +kernel
theorem dX0_coinsOf_16 : decode cX0_coinsOf 16 = .ok (.iload_n 1, 1) := by decide +kernel
theorem dX0_coinsOf_17 : decode cX0_coinsOf 17 = .ok (.iload_n 3, 1) := by decide +kernel
theorem dX0_coinsOf_18 : decode cX0_coinsOf 18 = .ok (.invokevirtual 51, 3) := by decide +kernel
theorem dX0_coinsOf_21 : decode cX0_coinsOf 21 = .ok (.iadd, 1) := by decide +kernel
theorem dX0_coinsOf_22 : decode cX0_coinsOf 22 = .ok (.istore_n 2, 1) := by decide +kernel
theorem dX0_coinsOf_23 : decode cX0_coinsOf 23 = .ok (.iinc 3 1, 3) := by decide +kernel
theorem dX0_coinsOf_26 : decode cX0_coinsOf 26 = .ok (.goto (-22), 3) := by decide +kernel
theorem dX0_coinsOf_29 : decode cX0_coinsOf 29 = .ok (.iload_n 2, 1) := by decide +kernel
theorem dX0_coinsOf_30 : decode cX0_coinsOf 30 = .ok (.ireturn, 1) := by decide +kernel
def rmX0_coinsOf : Room := { frames := 2, cells := 0, slots := 0, locals := 44 }
abbrev eX0_coinsOf := Ev cX0_coinsOf 4 (some .int) RX0 rmX0_coinsOf
set_option maxRecDepth 20000 in
theorem ev_X0_coinsOf_l4 (l0 : Nat) (l1 : Int32) (o_l0 : kd (l0) = 0) (K : Int32 → St → Prop) (Q : Int32 → Prop) (σ0 : St) (hK : ∀ k2 s, K k2 s → s = σ0 → eX0_coinsOf 29 [un, un, .int (k2), un] [] s (qI fun x s => s = σ0 ∧ Q x)) : ∀ (n : Nat) (l2 : Int32) (l3 : Int32) (σ : St), σ = σ0 → P_X0_coinsOf_l4 l0 l1 K Q n l2 l3 σ → eX0_coinsOf 4 [.ref (l0), .int (l1), .int (l2), .int (l3)] [] σ (qI fun x s => s = σ0 ∧ Q x) := by
  intro n
  induction n with
  | zero => intro l2 l3 σ hs hP; exact hP.elim
  | succ n ih =>
    intro l2 l3 σ hs hP
    subst hs
    rw [P_X0_coinsOf_l4] at hP
    refine E_iload_n dX0_coinsOf_4 rfl ?_
    refine E_aload_n dX0_coinsOf_5 rfl ?_
    refine E_getR (j := 3) dX0_coinsOf_6 o_l0 (by decide) rfl fd_RX0_21 (by decide) ?_
    refine E_iload_n dX0_coinsOf_9 rfl ?_
    obtain ⟨hb, hP⟩ := hP
    refine E_iald dX0_coinsOf_10 (ar_0_4 o_l0).1 (ar_0_4 o_l0).2 hb ?_
    refine E_icmp_ge 29 dX0_coinsOf_11 (by decide) (fun hc => ?_) (fun hc => ?_)
    · replace hP := hP.1 hc
      refine E_mask [false, false, true, false] rfl ?_
      exact hK (l2) _ hP rfl
    · replace hP := hP.2 hc
      refine E_iload_n dX0_coinsOf_14 rfl ?_
      refine E_aload_n dX0_coinsOf_15 rfl ?_
      refine E_iload_n dX0_coinsOf_16 rfl ?_
      refine E_iload_n dX0_coinsOf_17 rfl ?_
      refine E_callV (As := [.int (l1), .int (l3)]) (rest := [.int (l2)]) dX0_coinsOf_18 cl_RX0_51 tw_24 o_l0 (by decide) rfl tw_25 ⟨rfl, rfl, Nat.le_of_ble_eq_true rfl, Nat.le_of_ble_eq_true rfl⟩ rfl rfl (Nat.le_of_ble_eq_true rfl) (mt_X0_coinOf _ _ _ _ _ o_l0 hP) ?_
      intro r0 s0 hq0; obtain ⟨r18, h0, hs0, hP⟩ := hq0; subst h0; rw [hs0]
      show eX0_coinsOf 21 [.ref (l0), .int (l1), .int (l2), .int (l3)] [.int (r18), .int (l2)] σ _
      refine E_iadd dX0_coinsOf_21 ?_
      refine E_istore_n (ls' := [.ref (l0), .int (l1), .int (l2 + r18), .int (l3)]) dX0_coinsOf_22 (by decide) rfl ?_
      refine E_iinc (ls' := [.ref (l0), .int (l1), .int (l2 + r18), .int (l3 + 1)]) dX0_coinsOf_23 rfl rfl (by decide) rfl ?_
      refine E_goto 4 dX0_coinsOf_26 (by decide) ?_
      exact ih (l2 + r18) (l3 + 1) _ rfl hP
set_option maxRecDepth 20000 in
theorem mt_X0_coinsOf (a0 : Nat) (p0 : Int32) (σ : St) (Q : Int32 → Prop) (o_a0 : kd a0 = 0) (hP : P_X0_coinsOf a0 p0 σ Q) : Mt yX0_coinsOf cX0_coinsOf 4 (some .int) rmX0_coinsOf [.ref (a0), .int (p0)] σ (qI fun x s => s = σ ∧ Q x) := by
  refine Mt.of (k := 2) (ls := [.ref (a0), .int (p0), un, un]) (by decide +kernel) rfl (Nat.le_of_ble_eq_true rfl) ?_
  show eX0_coinsOf 0 [.ref (a0), .int (p0), un, un] [] σ _
  unfold P_X0_coinsOf at hP
  refine E_iconst (v := 0) dX0_coinsOf_0 (by decide) ?_
  refine E_istore_n (ls' := [.ref (a0), .int (p0), .int (0), un]) dX0_coinsOf_1 (by decide) rfl ?_
  refine E_iconst (v := 0) dX0_coinsOf_2 (by decide) ?_
  refine E_istore_n (ls' := [.ref (a0), .int (p0), .int (0), .int (0)]) dX0_coinsOf_3 (by decide) rfl ?_
  obtain ⟨m4, hP⟩ := hP
  refine ev_X0_coinsOf_l4 (a0) (p0) o_a0 _ Q σ ?_ m4 _ _ _ rfl hP
  intro k2 t29 hP hs
  rw [hs]
  refine E_iload_n dX0_coinsOf_29 rfl ?_
  exact E_iret dX0_coinsOf_30 rfl ⟨_, rfl, rfl, hP⟩
theorem dX0_allTops_0 : decode cX0_allTops 0 = .ok (.iconst 0, 1) := by decide +kernel
theorem dX0_allTops_1 : decode cX0_allTops 1 = .ok (.istore_n 1, 1) := by decide +kernel
theorem dX0_allTops_2 : decode cX0_allTops 2 = .ok (.iconst 0, 1) := by decide +kernel
theorem dX0_allTops_3 : decode cX0_allTops 3 = .ok (.istore_n 2, 1) := by decide +kernel
theorem dX0_allTops_4 : decode cX0_allTops 4 = .ok (.iload_n 2, 1) := by decide +kernel
theorem dX0_allTops_5 : decode cX0_allTops 5 = .ok (.iconst 4, 1) := by decide +kernel
theorem dX0_allTops_6 : decode cX0_allTops 6 = .ok (.if_icmp .ge 17, 3) := by decide +kernel
theorem dX0_allTops_9 : decode cX0_allTops 9 = .ok (.iload_n 1, 1) := by decide +kernel
theorem dX0_allTops_10 : decode cX0_allTops 10 = .ok (.aload_n 0, 1) := by decide +kernel
theorem dX0_allTops_11 : decode cX0_allTops 11 = .ok (.iload_n 2, 1) := by decide +kernel
theorem dX0_allTops_12 : decode cX0_allTops 12 = .ok (.invokevirtual 65, 3) := by decide +kernel
theorem dX0_allTops_15 : decode cX0_allTops 15 = .ok (.iadd, 1) := by decide +kernel
theorem dX0_allTops_16 : decode cX0_allTops 16 = .ok (.istore_n 1, 1) := by decide +kernel
theorem dX0_allTops_17 : decode cX0_allTops 17 = .ok (.iinc 2 1, 3) := by decide +kernel
theorem dX0_allTops_20 : decode cX0_allTops 20 = .ok (.goto (-16), 3) := by decide +kernel
theorem dX0_allTops_23 : decode cX0_allTops 23 = .ok (.iload_n 1, 1) := by decide +kernel
theorem dX0_allTops_24 : decode cX0_allTops 24 = .ok (.ireturn, 1) := by decide +kernel
def rmX0_allTops : Room := { frames := 3, cells := 0, slots := 0, locals := 73 }
abbrev eX0_allTops := Ev cX0_allTops 3 (some .int) RX0 rmX0_allTops
set_option maxRecDepth 20000 in
theorem ev_X0_allTops_l4 (l0 : Nat) (o_l0 : kd (l0) = 0) (K : Int32 → St → Prop) (Q : Int32 → Prop) (σ0 : St) (hK : ∀ k1 s, K k1 s → s = σ0 → eX0_allTops 23 [un, .int (k1), un] [] s (qI fun x s => s = σ0 ∧ Q x)) : ∀ (n : Nat) (l1 : Int32) (l2 : Int32) (σ : St), σ = σ0 → P_X0_allTops_l4 l0 K Q n l1 l2 σ → eX0_allTops 4 [.ref (l0), .int (l1), .int (l2)] [] σ (qI fun x s => s = σ0 ∧ Q x) := by
  intro n
  induction n with
  | zero => intro l1 l2 σ hs hP; exact hP.elim
  | succ n ih =>
    intro l1 l2 σ hs hP
    subst hs
    rw [P_X0_allTops_l4] at hP
    refine E_iload_n dX0_allTops_4 rfl ?_
    refine E_iconst (v := 4) dX0_allTops_5 (by decide) ?_
    refine E_icmp_ge 23 dX0_allTops_6 (by decide) (fun hc => ?_) (fun hc => ?_)
    · replace hP := hP.1 hc
      refine E_mask [false, true, false] rfl ?_
      exact hK (l1) _ hP rfl
    · replace hP := hP.2 hc
      refine E_iload_n dX0_allTops_9 rfl ?_
      refine E_aload_n dX0_allTops_10 rfl ?_
      refine E_iload_n dX0_allTops_11 rfl ?_
      refine E_callV (As := [.int (l2)]) (rest := [.int (l1)]) dX0_allTops_12 cl_RX0_65 tw_35 o_l0 (by decide) rfl tw_36 ⟨rfl, rfl, Nat.le_of_ble_eq_true rfl, Nat.le_of_ble_eq_true rfl⟩ rfl rfl (Nat.le_of_ble_eq_true rfl) (mt_X0_topOf _ _ _ _ o_l0 hP) ?_
      intro r0 s0 hq0; obtain ⟨r12, h0, hs0, hP⟩ := hq0; subst h0; rw [hs0]
      show eX0_allTops 15 [.ref (l0), .int (l1), .int (l2)] [.int (r12), .int (l1)] σ _
      refine E_iadd dX0_allTops_15 ?_
      refine E_istore_n (ls' := [.ref (l0), .int (l1 + r12), .int (l2)]) dX0_allTops_16 (by decide) rfl ?_
      refine E_iinc (ls' := [.ref (l0), .int (l1 + r12), .int (l2 + 1)]) dX0_allTops_17 rfl rfl (by decide) rfl ?_
      refine E_goto 4 dX0_allTops_20 (by decide) ?_
      exact ih (l1 + r12) (l2 + 1) _ rfl hP
set_option maxRecDepth 20000 in
theorem mt_X0_allTops (a0 : Nat) (σ : St) (Q : Int32 → Prop) (o_a0 : kd a0 = 0) (hP : P_X0_allTops a0 σ Q) : Mt yX0_allTops cX0_allTops 3 (some .int) rmX0_allTops [.ref (a0)] σ (qI fun x s => s = σ ∧ Q x) := by
  refine Mt.of (k := 2) (ls := [.ref (a0), un, un]) (by decide +kernel) rfl (Nat.le_of_ble_eq_true rfl) ?_
  show eX0_allTops 0 [.ref (a0), un, un] [] σ _
  unfold P_X0_allTops at hP
  refine E_iconst (v := 0) dX0_allTops_0 (by decide) ?_
  refine E_istore_n (ls' := [.ref (a0), .int (0), un]) dX0_allTops_1 (by decide) rfl ?_
  refine E_iconst (v := 0) dX0_allTops_2 (by decide) ?_
  refine E_istore_n (ls' := [.ref (a0), .int (0), .int (0)]) dX0_allTops_3 (by decide) rfl ?_
  obtain ⟨m4, hP⟩ := hP
  refine ev_X0_allTops_l4 (a0) o_a0 _ Q σ ?_ m4 _ _ _ rfl hP
  intro k1 t23 hP hs
  rw [hs]
  refine E_iload_n dX0_allTops_23 rfl ?_
  exact E_iret dX0_allTops_24 rfl ⟨_, rfl, rfl, hP⟩
theorem dX0_allCoins_0 : decode cX0_allCoins 0 = .ok (.iconst 0, 1) := by decide +kernel
theorem dX0_allCoins_1 : decode cX0_allCoins 1 = .ok (.istore_n 1, 1) := by decide +kernel
theorem dX0_allCoins_2 : decode cX0_allCoins 2 = .ok (.iconst 0, 1) := by decide +kernel
theorem dX0_allCoins_3 : decode cX0_allCoins 3 = .ok (.istore_n 2, 1) := by decide +kernel
theorem dX0_allCoins_4 : decode cX0_allCoins 4 = .ok (.iload_n 2, 1) := by decide +kernel
theorem dX0_allCoins_5 : decode cX0_allCoins 5 = .ok (.iconst 4, 1) := by decide +kernel
theorem dX0_allCoins_6 : decode cX0_allCoins 6 = .ok (.if_icmp .ge 17, 3) := by decide +kernel
theorem dX0_allCoins_9 : decode cX0_allCoins 9 = .ok (.iload_n 1, 1) := by decide +kernel
theorem dX0_allCoins_10 : decode cX0_allCoins 10 = .ok (.aload_n 0, 1) := by decide +kernel
theorem dX0_allCoins_11 : decode cX0_allCoins 11 = .ok (.iload_n 2, 1) := by decide +kernel
theorem dX0_allCoins_12 : decode cX0_allCoins 12 = .ok (.invokevirtual 69, 3) := by decide +kernel
theorem dX0_allCoins_15 : decode cX0_allCoins 15 = .ok (.iadd, 1) := by decide +kernel
theorem dX0_allCoins_16 : decode cX0_allCoins 16 = .ok (.istore_n 1, 1) := by decide +kernel
theorem dX0_allCoins_17 : decode cX0_allCoins 17 = .ok (.iinc 2 1, 3) := by decide +kernel
theorem dX0_allCoins_20 : decode cX0_allCoins 20 = .ok (.goto (-16), 3) := by decide +kernel
theorem dX0_allCoins_23 : decode cX0_allCoins 23 = .ok (.iload_n 1, 1) := by decide +kernel
theorem dX0_allCoins_24 : decode cX0_allCoins 24 = .ok (.ireturn, 1) := by decide +kernel
def rmX0_allCoins : Room := { frames := 3, cells := 0, slots := 0, locals := 67 }
abbrev eX0_allCoins := Ev cX0_allCoins 3 (some .int) RX0 rmX0_allCoins
set_option maxRecDepth 20000 in
theorem ev_X0_allCoins_l4 (l0 : Nat) (o_l0 : kd (l0) = 0) (K : Int32 → St → Prop) (Q : Int32 → Prop) (σ0 : St) (hK : ∀ k1 s, K k1 s → s = σ0 → eX0_allCoins 23 [un, .int (k1), un] [] s (qI fun x s => s = σ0 ∧ Q x)) : ∀ (n : Nat) (l1 : Int32) (l2 : Int32) (σ : St), σ = σ0 → P_X0_allCoins_l4 l0 K Q n l1 l2 σ → eX0_allCoins 4 [.ref (l0), .int (l1), .int (l2)] [] σ (qI fun x s => s = σ0 ∧ Q x) := by
  intro n
  induction n with
  | zero => intro l1 l2 σ hs hP; exact hP.elim
  | succ n ih =>
    intro l1 l2 σ hs hP
    subst hs
    rw [P_X0_allCoins_l4] at hP
    refine E_iload_n dX0_allCoins_4 rfl ?_
    refine E_iconst (v := 4) dX0_allCoins_5 (by decide) ?_
    refine E_icmp_ge 23 dX0_allCoins_6 (by decide) (fun hc => ?_) (fun hc => ?_)
    · replace hP := hP.1 hc
      refine E_mask [false, true, false] rfl ?_
      exact hK (l1) _ hP rfl
    · replace hP := hP.2 hc
      refine E_iload_n dX0_allCoins_9 rfl ?_
      refine E_aload_n dX0_allCoins_10 rfl ?_
      refine E_iload_n dX0_allCoins_11 rfl ?_
      refine E_callV (As := [.int (l2)]) (rest := [.int (l1)]) dX0_allCoins_12 cl_RX0_69 tw_39 o_l0 (by decide) rfl tw_40 ⟨rfl, rfl, Nat.le_of_ble_eq_true rfl, Nat.le_of_ble_eq_true rfl⟩ rfl rfl (Nat.le_of_ble_eq_true rfl) (mt_X0_coinsOf _ _ _ _ o_l0 hP) ?_
      intro r0 s0 hq0; obtain ⟨r12, h0, hs0, hP⟩ := hq0; subst h0; rw [hs0]
      show eX0_allCoins 15 [.ref (l0), .int (l1), .int (l2)] [.int (r12), .int (l1)] σ _
      refine E_iadd dX0_allCoins_15 ?_
      refine E_istore_n (ls' := [.ref (l0), .int (l1 + r12), .int (l2)]) dX0_allCoins_16 (by decide) rfl ?_
      refine E_iinc (ls' := [.ref (l0), .int (l1 + r12), .int (l2 + 1)]) dX0_allCoins_17 rfl rfl (by decide) rfl ?_
      refine E_goto 4 dX0_allCoins_20 (by decide) ?_
      exact ih (l1 + r12) (l2 + 1) _ rfl hP
set_option maxRecDepth 20000 in
theorem mt_X0_allCoins (a0 : Nat) (σ : St) (Q : Int32 → Prop) (o_a0 : kd a0 = 0) (hP : P_X0_allCoins a0 σ Q) : Mt yX0_allCoins cX0_allCoins 3 (some .int) rmX0_allCoins [.ref (a0)] σ (qI fun x s => s = σ ∧ Q x) := by
  refine Mt.of (k := 2) (ls := [.ref (a0), un, un]) (by decide +kernel) rfl (Nat.le_of_ble_eq_true rfl) ?_
  show eX0_allCoins 0 [.ref (a0), un, un] [] σ _
  unfold P_X0_allCoins at hP
  refine E_iconst (v := 0) dX0_allCoins_0 (by decide) ?_
  refine E_istore_n (ls' := [.ref (a0), .int (0), un]) dX0_allCoins_1 (by decide) rfl ?_
  refine E_iconst (v := 0) dX0_allCoins_2 (by decide) ?_
  refine E_istore_n (ls' := [.ref (a0), .int (0), .int (0)]) dX0_allCoins_3 (by decide) rfl ?_
  obtain ⟨m4, hP⟩ := hP
  refine ev_X0_allCoins_l4 (a0) o_a0 _ Q σ ?_ m4 _ _ _ rfl hP
  intro k1 t23 hP hs
  rw [hs]
  refine E_iload_n dX0_allCoins_23 rfl ?_
  exact E_iret dX0_allCoins_24 rfl ⟨_, rfl, rfl, hP⟩
theorem dX3_unit_0 : decode cX3_unit 0 = .ok (.iconst 1, 1) := by decide +kernel
theorem dX3_unit_1 : decode cX3_unit 1 = .ok (.iconst 3, 1) := by decide +kernel
theorem dX3_unit_2 : decode cX3_unit 2 = .ok (.iload_n 0, 1) := by decide +kernel
theorem dX3_unit_3 : decode cX3_unit 3 = .ok (.imul, 1) := by decide +kernel
theorem dX3_unit_4 : decode cX3_unit 4 = .ok (.ishl, 1) := by decide +kernel
theorem dX3_unit_5 : decode cX3_unit 5 = .ok (.ireturn, 1) := by decide +kernel
def rmX3_unit : Room := { frames := 0, cells := 0, slots := 0, locals := 0 }
abbrev eX3_unit := Ev cX3_unit 1 (some .int) RX3 rmX3_unit
set_option maxRecDepth 20000 in
theorem mt_X3_unit (p0 : Int32) (σ : St) (Q : Int32 → Prop)  (hP : P_X3_unit p0 σ Q) : Mt yX3_unit cX3_unit 1 (some .int) rmX3_unit [.int (p0)] σ (qI fun x s => s = σ ∧ Q x) := by
  refine Mt.of (k := 0) (ls := [.int (p0)]) (by decide +kernel) rfl (Nat.le_of_ble_eq_true rfl) ?_
  show eX3_unit 0 [.int (p0)] [] σ _
  unfold P_X3_unit at hP
  refine E_iconst (v := 1) dX3_unit_0 (by decide) ?_
  refine E_iconst (v := 3) dX3_unit_1 (by decide) ?_
  refine E_iload_n dX3_unit_2 rfl ?_
  refine E_imul dX3_unit_3 ?_
  refine E_ishl dX3_unit_4 ?_
  exact E_iret dX3_unit_5 rfl ⟨_, rfl, rfl, hP⟩
theorem dX0_standNow_0 : decode cX0_standNow 0 = .ok (.iconst 0, 1) := by decide +kernel
theorem dX0_standNow_1 : decode cX0_standNow 1 = .ok (.istore_n 1, 1) := by decide +kernel
theorem dX0_standNow_2 : decode cX0_standNow 2 = .ok (.iconst 0, 1) := by decide +kernel
theorem dX0_standNow_3 : decode cX0_standNow 3 = .ok (.istore_n 2, 1) := by decide +kernel
theorem dX0_standNow_4 : decode cX0_standNow 4 = .ok (.iload_n 2, 1) := by decide +kernel
theorem dX0_standNow_5 : decode cX0_standNow 5 = .ok (.iconst 4, 1) := by decide +kernel
theorem dX0_standNow_6 : decode cX0_standNow 6 = .ok (.if_icmp .ge 23, 3) := by decide +kernel
theorem dX0_standNow_9 : decode cX0_standNow 9 = .ok (.iload_n 1, 1) := by decide +kernel
theorem dX0_standNow_10 : decode cX0_standNow 10 = .ok (.aload_n 0, 1) := by decide +kernel
theorem dX0_standNow_11 : decode cX0_standNow 11 = .ok (.getfield 21, 3) := by decide +kernel
theorem dX0_standNow_14 : decode cX0_standNow 14 = .ok (.iload_n 2, 1) := by decide +kernel
theorem dX0_standNow_15 : decode cX0_standNow 15 = .ok (.iaload, 1) := by decide +kernel
theorem dX0_standNow_16 : decode cX0_standNow 16 = .ok (.iload_n 2, 1) := by decide +kernel
theorem dX0_standNow_17 : decode cX0_standNow 17 = .ok (.invokestatic 81, 3) := by decide +kernel
theorem dX0_standNow_20 : decode cX0_standNow 20 = .ok (.imul, 1) := by decide +kernel
theorem dX0_standNow_21 : decode cX0_standNow 21 = .ok (.iadd, 1) := by decide +kernel
theorem dX0_standNow_22 : decode cX0_standNow 22 = .ok (.istore_n 1, 1) := by decide +kernel
theorem dX0_standNow_23 : decode cX0_standNow 23 = .ok (.iinc 2 1, 3) := by decide +kernel
theorem dX0_standNow_26 : decode cX0_standNow 26 = .ok (.goto (-22), 3) := by decide +kernel
theorem dX0_standNow_29 : decode cX0_standNow 29 = .ok (.iload_n 1, 1) := by decide +kernel
theorem dX0_standNow_30 : decode cX0_standNow 30 = .ok (.ireturn, 1) := by decide +kernel
def rmX0_standNow : Room := { frames := 1, cells := 0, slots := 0, locals := 20 }
abbrev eX0_standNow := Ev cX0_standNow 3 (some .int) RX0 rmX0_standNow
set_option maxRecDepth 20000 in
theorem ev_X0_standNow_l4 (l0 : Nat) (o_l0 : kd (l0) = 0) (K : Int32 → St → Prop) (Q : Int32 → Prop) (σ0 : St) (hK : ∀ k1 s, K k1 s → s = σ0 → eX0_standNow 29 [un, .int (k1), un] [] s (qI fun x s => s = σ0 ∧ Q x)) : ∀ (n : Nat) (l1 : Int32) (l2 : Int32) (σ : St), σ = σ0 → P_X0_standNow_l4 l0 K Q n l1 l2 σ → eX0_standNow 4 [.ref (l0), .int (l1), .int (l2)] [] σ (qI fun x s => s = σ0 ∧ Q x) := by
  intro n
  induction n with
  | zero => intro l1 l2 σ hs hP; exact hP.elim
  | succ n ih =>
    intro l1 l2 σ hs hP
    subst hs
    rw [P_X0_standNow_l4] at hP
    refine E_iload_n dX0_standNow_4 rfl ?_
    refine E_iconst (v := 4) dX0_standNow_5 (by decide) ?_
    refine E_icmp_ge 29 dX0_standNow_6 (by decide) (fun hc => ?_) (fun hc => ?_)
    · replace hP := hP.1 hc
      refine E_mask [false, true, false] rfl ?_
      exact hK (l1) _ hP rfl
    · replace hP := hP.2 hc
      refine E_iload_n dX0_standNow_9 rfl ?_
      refine E_aload_n dX0_standNow_10 rfl ?_
      refine E_getR (j := 3) dX0_standNow_11 o_l0 (by decide) rfl fd_RX0_21 (by decide) ?_
      refine E_iload_n dX0_standNow_14 rfl ?_
      obtain ⟨hb, hP⟩ := hP
      refine E_iald dX0_standNow_15 (ar_0_4 o_l0).1 (ar_0_4 o_l0).2 hb ?_
      refine E_iload_n dX0_standNow_16 rfl ?_
      refine E_callS (As := [.int (l2)]) (rest := [.int (gI σ (l0 + 4) l2.toNatClampNeg), .int (l1)]) dX0_standNow_17 cl_RX0_81 tw_44 ⟨rfl, rfl, Nat.le_of_ble_eq_true rfl, Nat.le_of_ble_eq_true rfl⟩ rfl rfl (Nat.le_of_ble_eq_true rfl) (mt_X3_unit _ _ _  hP) ?_
      intro r0 s0 hq0; obtain ⟨r17, h0, hs0, hP⟩ := hq0; subst h0; rw [hs0]
      show eX0_standNow 20 [.ref (l0), .int (l1), .int (l2)] [.int (r17), .int (gI σ (l0 + 4) l2.toNatClampNeg), .int (l1)] σ _
      refine E_imul dX0_standNow_20 ?_
      refine E_iadd dX0_standNow_21 ?_
      refine E_istore_n (ls' := [.ref (l0), .int (l1 + ((gI σ (l0 + 4) l2.toNatClampNeg) * r17)), .int (l2)]) dX0_standNow_22 (by decide) rfl ?_
      refine E_iinc (ls' := [.ref (l0), .int (l1 + ((gI σ (l0 + 4) l2.toNatClampNeg) * r17)), .int (l2 + 1)]) dX0_standNow_23 rfl rfl (by decide) rfl ?_
      refine E_goto 4 dX0_standNow_26 (by decide) ?_
      exact ih (l1 + ((gI σ (l0 + 4) l2.toNatClampNeg) * r17)) (l2 + 1) _ rfl hP
set_option maxRecDepth 20000 in
theorem mt_X0_standNow (a0 : Nat) (σ : St) (Q : Int32 → Prop) (o_a0 : kd a0 = 0) (hP : P_X0_standNow a0 σ Q) : Mt yX0_standNow cX0_standNow 3 (some .int) rmX0_standNow [.ref (a0)] σ (qI fun x s => s = σ ∧ Q x) := by
  refine Mt.of (k := 2) (ls := [.ref (a0), un, un]) (by decide +kernel) rfl (Nat.le_of_ble_eq_true rfl) ?_
  show eX0_standNow 0 [.ref (a0), un, un] [] σ _
  unfold P_X0_standNow at hP
  refine E_iconst (v := 0) dX0_standNow_0 (by decide) ?_
  refine E_istore_n (ls' := [.ref (a0), .int (0), un]) dX0_standNow_1 (by decide) rfl ?_
  refine E_iconst (v := 0) dX0_standNow_2 (by decide) ?_
  refine E_istore_n (ls' := [.ref (a0), .int (0), .int (0)]) dX0_standNow_3 (by decide) rfl ?_
  obtain ⟨m4, hP⟩ := hP
  refine ev_X0_standNow_l4 (a0) o_a0 _ Q σ ?_ m4 _ _ _ rfl hP
  intro k1 t29 hP hs
  rw [hs]
  refine E_iload_n dX0_standNow_29 rfl ?_
  exact E_iret dX0_standNow_30 rfl ⟨_, rfl, rfl, hP⟩
theorem dX3_leftAt_0 : decode cX3_leftAt 0 = .ok (.iload_n 0, 1) := by decide +kernel
theorem dX3_leftAt_1 : decode cX3_leftAt 1 = .ok (.iconst 3, 1) := by decide +kernel
theorem dX3_leftAt_2 : decode cX3_leftAt 2 = .ok (.iload_n 1, 1) := by decide +kernel
theorem dX3_leftAt_3 : decode cX3_leftAt 3 = .ok (.imul, 1) := by decide +kernel
theorem dX3_leftAt_4 : decode cX3_leftAt 4 = .ok (.ishr, 1) := by decide +kernel
theorem dX3_leftAt_5 : decode cX3_leftAt 5 = .ok (.bipush 7, 2) := by decide +kernel
theorem dX3_leftAt_7 : decode cX3_leftAt 7 = .ok (.iand, 1) := by decide +kernel
theorem dX3_leftAt_8 : decode cX3_leftAt 8 = .ok (.ireturn, 1) := by decide +kernel
def rmX3_leftAt : Room := { frames := 0, cells := 0, slots := 0, locals := 0 }
abbrev eX3_leftAt := Ev cX3_leftAt 2 (some .int) RX3 rmX3_leftAt
set_option maxRecDepth 20000 in
theorem mt_X3_leftAt (p0 : Int32) (p1 : Int32) (σ : St) (Q : Int32 → Prop)  (hP : P_X3_leftAt p0 p1 σ Q) : Mt yX3_leftAt cX3_leftAt 2 (some .int) rmX3_leftAt [.int (p0), .int (p1)] σ (qI fun x s => s = σ ∧ Q x) := by
  refine Mt.of (k := 0) (ls := [.int (p0), .int (p1)]) (by decide +kernel) rfl (Nat.le_of_ble_eq_true rfl) ?_
  show eX3_leftAt 0 [.int (p0), .int (p1)] [] σ _
  unfold P_X3_leftAt at hP
  refine E_iload_n dX3_leftAt_0 rfl ?_
  refine E_iconst (v := 3) dX3_leftAt_1 (by decide) ?_
  refine E_iload_n dX3_leftAt_2 rfl ?_
  refine E_imul dX3_leftAt_3 ?_
  refine E_ishr dX3_leftAt_4 ?_
  refine E_bipush (v := 7) dX3_leftAt_5 (by decide) ?_
  refine E_iand dX3_leftAt_7 ?_
  exact E_iret dX3_leftAt_8 rfl ⟨_, rfl, rfl, hP⟩
theorem dX3_stonesAt_0 : decode cX3_stonesAt 0 = .ok (.iload_n 0, 1) := by decide +kernel
theorem dX3_stonesAt_1 : decode cX3_stonesAt 1 = .ok (.iconst 0, 1) := by decide +kernel
theorem dX3_stonesAt_2 : decode cX3_stonesAt 2 = .ok (.invokestatic 21, 3) := by decide +kernel
theorem dX3_stonesAt_5 : decode cX3_stonesAt 5 = .ok (.iload_n 0, 1) := by decide +kernel
theorem dX3_stonesAt_6 : decode cX3_stonesAt 6 = .ok (.iconst 1, 1) := by decide +kernel
theorem dX3_stonesAt_7 : decode cX3_stonesAt 7 = .ok (.invokestatic 21, 3) := by decide +kernel
theorem dX3_stonesAt_10 : decode cX3_stonesAt 10 = .ok (.iadd, 1) := by decide +kernel
theorem dX3_stonesAt_11 : decode cX3_stonesAt 11 = .ok (.iload_n 0, 1) := by decide +kernel
theorem dX3_stonesAt_12 : decode cX3_stonesAt 12 = .ok (.iconst 2, 1) := by decide +kernel
theorem dX3_stonesAt_13 : decode cX3_stonesAt 13 = .ok (.invokestatic 21, 3) := by decide +kernel
theorem dX3_stonesAt_16 : decode cX3_stonesAt 16 = .ok (.iadd, 1) := by decide +kernel
theorem dX3_stonesAt_17 : decode cX3_stonesAt 17 = .ok (.iload_n 0, 1) := by decide +kernel
theorem dX3_stonesAt_18 : decode cX3_stonesAt 18 = .ok (.iconst 3, 1) := by decide +kernel
theorem dX3_stonesAt_19 : decode cX3_stonesAt 19 = .ok (.invokestatic 21, 3) := by decide +kernel
theorem dX3_stonesAt_22 : decode cX3_stonesAt 22 = .ok (.iadd, 1) := by decide +kernel
theorem dX3_stonesAt_23 : decode cX3_stonesAt 23 = .ok (.ireturn, 1) := by decide +kernel
def rmX3_stonesAt : Room := { frames := 1, cells := 0, slots := 0, locals := 21 }
abbrev eX3_stonesAt := Ev cX3_stonesAt 1 (some .int) RX3 rmX3_stonesAt
set_option maxRecDepth 20000 in
theorem mt_X3_stonesAt (p0 : Int32) (σ : St) (Q : Int32 → Prop)  (hP : P_X3_stonesAt p0 σ Q) : Mt yX3_stonesAt cX3_stonesAt 1 (some .int) rmX3_stonesAt [.int (p0)] σ (qI fun x s => s = σ ∧ Q x) := by
  refine Mt.of (k := 0) (ls := [.int (p0)]) (by decide +kernel) rfl (Nat.le_of_ble_eq_true rfl) ?_
  show eX3_stonesAt 0 [.int (p0)] [] σ _
  unfold P_X3_stonesAt at hP
  refine E_iload_n dX3_stonesAt_0 rfl ?_
  refine E_iconst (v := 0) dX3_stonesAt_1 (by decide) ?_
  refine E_callS (As := [.int (p0), .int (0)]) (rest := []) dX3_stonesAt_2 cl_RX3_21 tw_47 ⟨rfl, rfl, Nat.le_of_ble_eq_true rfl, Nat.le_of_ble_eq_true rfl⟩ rfl rfl (Nat.le_of_ble_eq_true rfl) (mt_X3_leftAt _ _ _ _  hP) ?_
  intro r0 s0 hq0; obtain ⟨r2, h0, hs0, hP⟩ := hq0; subst h0; rw [hs0]
  show eX3_stonesAt 5 [.int (p0)] [.int (r2)] σ _
  refine E_iload_n dX3_stonesAt_5 rfl ?_
  refine E_iconst (v := 1) dX3_stonesAt_6 (by decide) ?_
  refine E_callS (As := [.int (p0), .int (1)]) (rest := [.int (r2)]) dX3_stonesAt_7 cl_RX3_21 tw_47 ⟨rfl, rfl, Nat.le_of_ble_eq_true rfl, Nat.le_of_ble_eq_true rfl⟩ rfl rfl (Nat.le_of_ble_eq_true rfl) (mt_X3_leftAt _ _ _ _  hP) ?_
  intro r0 s0 hq0; obtain ⟨r7, h0, hs0, hP⟩ := hq0; subst h0; rw [hs0]
  show eX3_stonesAt 10 [.int (p0)] [.int (r7), .int (r2)] σ _
  refine E_iadd dX3_stonesAt_10 ?_
  refine E_iload_n dX3_stonesAt_11 rfl ?_
  refine E_iconst (v := 2) dX3_stonesAt_12 (by decide) ?_
  refine E_callS (As := [.int (p0), .int (2)]) (rest := [.int (r2 + r7)]) dX3_stonesAt_13 cl_RX3_21 tw_47 ⟨rfl, rfl, Nat.le_of_ble_eq_true rfl, Nat.le_of_ble_eq_true rfl⟩ rfl rfl (Nat.le_of_ble_eq_true rfl) (mt_X3_leftAt _ _ _ _  hP) ?_
  intro r0 s0 hq0; obtain ⟨r13, h0, hs0, hP⟩ := hq0; subst h0; rw [hs0]
  show eX3_stonesAt 16 [.int (p0)] [.int (r13), .int (r2 + r7)] σ _
  refine E_iadd dX3_stonesAt_16 ?_
  refine E_iload_n dX3_stonesAt_17 rfl ?_
  refine E_iconst (v := 3) dX3_stonesAt_18 (by decide) ?_
  refine E_callS (As := [.int (p0), .int (3)]) (rest := [.int ((r2 + r7) + r13)]) dX3_stonesAt_19 cl_RX3_21 tw_47 ⟨rfl, rfl, Nat.le_of_ble_eq_true rfl, Nat.le_of_ble_eq_true rfl⟩ rfl rfl (Nat.le_of_ble_eq_true rfl) (mt_X3_leftAt _ _ _ _  hP) ?_
  intro r0 s0 hq0; obtain ⟨r19, h0, hs0, hP⟩ := hq0; subst h0; rw [hs0]
  show eX3_stonesAt 22 [.int (p0)] [.int (r19), .int ((r2 + r7) + r13)] σ _
  refine E_iadd dX3_stonesAt_22 ?_
  exact E_iret dX3_stonesAt_23 rfl ⟨_, rfl, rfl, hP⟩
theorem dX0_allStones_0 : decode cX0_allStones 0 = .ok (.aload_n 0, 1) := by decide +kernel
theorem dX0_allStones_1 : decode cX0_allStones 1 = .ok (.invokevirtual 72, 3) := by decide +kernel
theorem dX0_allStones_4 : decode cX0_allStones 4 = .ok (.invokestatic 76, 3) := by decide +kernel
theorem dX0_allStones_7 : decode cX0_allStones 7 = .ok (.ireturn, 1) := by decide +kernel
def rmX0_allStones : Room := { frames := 2, cells := 0, slots := 0, locals := 42 }
abbrev eX0_allStones := Ev cX0_allStones 1 (some .int) RX0 rmX0_allStones
set_option maxRecDepth 20000 in
theorem mt_X0_allStones (a0 : Nat) (σ : St) (Q : Int32 → Prop) (o_a0 : kd a0 = 0) (hP : P_X0_allStones a0 σ Q) : Mt yX0_allStones cX0_allStones 1 (some .int) rmX0_allStones [.ref (a0)] σ (qI fun x s => s = σ ∧ Q x) := by
  refine Mt.of (k := 0) (ls := [.ref (a0)]) (by decide +kernel) rfl (Nat.le_of_ble_eq_true rfl) ?_
  show eX0_allStones 0 [.ref (a0)] [] σ _
  unfold P_X0_allStones at hP
  refine E_aload_n dX0_allStones_0 rfl ?_
  refine E_callV (As := []) (rest := []) dX0_allStones_1 cl_RX0_72 tw_53 o_a0 (by decide) rfl tw_54 ⟨rfl, rfl, Nat.le_of_ble_eq_true rfl, Nat.le_of_ble_eq_true rfl⟩ rfl rfl (Nat.le_of_ble_eq_true rfl) (mt_X0_standNow _ _ _ o_a0 hP) ?_
  intro r0 s0 hq0; obtain ⟨r1, h0, hs0, hP⟩ := hq0; subst h0; rw [hs0]
  show eX0_allStones 4 [.ref (a0)] [.int (r1)] σ _
  refine E_callS (As := [.int (r1)]) (rest := []) dX0_allStones_4 cl_RX0_76 tw_50 ⟨rfl, rfl, Nat.le_of_ble_eq_true rfl, Nat.le_of_ble_eq_true rfl⟩ rfl rfl (Nat.le_of_ble_eq_true rfl) (mt_X3_stonesAt _ _ _  hP) ?_
  intro r0 s0 hq0; obtain ⟨r4, h0, hs0, hP⟩ := hq0; subst h0; rw [hs0]
  show eX0_allStones 7 [.ref (a0)] [.int (r4)] σ _
  exact E_iret dX0_allStones_7 rfl ⟨_, rfl, rfl, hP⟩
theorem dJ7_rangeCheck_23922_0 : decode cJ7_rangeCheck_23922 0 = .ok (.iload_n 1, 1) := by decide +kernel
theorem dJ7_rangeCheck_23922_1 : decode cJ7_rangeCheck_23922 1 = .ok (.iload_n 2, 1) := by decide +kernel
theorem dJ7_rangeCheck_23922_2 : decode cJ7_rangeCheck_23922 2 = .ok (.if_icmp .le 44, 3) := by decide +kernel
theorem dJ7_rangeCheck_23922_5 : decode cJ7_rangeCheck_23922 5 = .ok (.new 43, 3) := by decide +kernel
theorem dJ7_rangeCheck_23922_8 : decode cJ7_rangeCheck_23922 8 = .ok (.dup, 1) := by decide +kernel
theorem dJ7_rangeCheck_23922_9 : decode cJ7_rangeCheck_23922 9 = .ok (.new 45, 3) := by decide +kernel
theorem dJ7_rangeCheck_23922_12 : decode cJ7_rangeCheck_23922 12 = .ok (.dup, 1) := by decide +kernel
theorem dJ7_rangeCheck_23922_13 : decode cJ7_rangeCheck_23922 13 = .ok (.invokespecial 47, 3) := by decide +kernel
theorem dJ7_rangeCheck_23922_16 : decode cJ7_rangeCheck_23922 16 = .ok (.ldc 48, 2) := by decide +kernel
theorem dJ7_rangeCheck_23922_18 : decode cJ7_rangeCheck_23922 18 = .ok (.invokevirtual 50, 3) := by decide +kernel
theorem dJ7_rangeCheck_23922_21 : decode cJ7_rangeCheck_23922 21 = .ok (.iload_n 1, 1) := by decide +kernel
theorem dJ7_rangeCheck_23922_22 : decode cJ7_rangeCheck_23922 22 = .ok (.invokevirtual 54, 3) := by decide +kernel
theorem dJ7_rangeCheck_23922_25 : decode cJ7_rangeCheck_23922 25 = .ok (.ldc 57, 2) := by decide +kernel
theorem dJ7_rangeCheck_23922_27 : decode cJ7_rangeCheck_23922 27 = .ok (.invokevirtual 50, 3) := by decide +kernel
theorem dJ7_rangeCheck_23922_30 : decode cJ7_rangeCheck_23922 30 = .ok (.iload_n 2, 1) := by decide +kernel
theorem dJ7_rangeCheck_23922_31 : decode cJ7_rangeCheck_23922 31 = .ok (.invokevirtual 54, 3) := by decide +kernel
theorem dJ7_rangeCheck_23922_34 : decode cJ7_rangeCheck_23922 34 = .ok (.ldc 59, 2) := by decide +kernel
theorem dJ7_rangeCheck_23922_36 : decode cJ7_rangeCheck_23922 36 = .ok (.invokevirtual 50, 3) := by decide +kernel
theorem dJ7_rangeCheck_23922_39 : decode cJ7_rangeCheck_23922 39 = .ok (.invokevirtual 61, 3) := by decide +kernel
theorem dJ7_rangeCheck_23922_42 : decode cJ7_rangeCheck_23922 42 = .ok (.invokespecial 65, 3) := by decide +kernel
theorem dJ7_rangeCheck_23922_45 : decode cJ7_rangeCheck_23922 45 = .ok (.athrow, 1) := by decide +kernel
theorem dJ7_rangeCheck_23922_46 : decode cJ7_rangeCheck_23922 46 = .ok (.iload_n 1, 1) := by decide +kernel
theorem dJ7_rangeCheck_23922_47 : decode cJ7_rangeCheck_23922 47 = .ok (.ifCond .ge 12, 3) := by decide +kernel
theorem dJ7_rangeCheck_23922_50 : decode cJ7_rangeCheck_23922 50 = .ok (.new 68, 3) := by decide +kernel
theorem dJ7_rangeCheck_23922_53 : decode cJ7_rangeCheck_23922 53 = .ok (.dup, 1) := by decide +kernel
theorem dJ7_rangeCheck_23922_54 : decode cJ7_rangeCheck_23922 54 = .ok (.iload_n 1, 1) := by decide +kernel
theorem dJ7_rangeCheck_23922_55 : decode cJ7_rangeCheck_23922 55 = .ok (.invokespecial 70, 3) := by decide +kernel
theorem dJ7_rangeCheck_23922_58 : decode cJ7_rangeCheck_23922 58 = .ok (.athrow, 1) := by decide +kernel
theorem dJ7_rangeCheck_23922_59 : decode cJ7_rangeCheck_23922 59 = .ok (.iload_n 2, 1) := by decide +kernel
theorem dJ7_rangeCheck_23922_60 : decode cJ7_rangeCheck_23922 60 = .ok (.iload_n 0, 1) := by decide +kernel
theorem dJ7_rangeCheck_23922_61 : decode cJ7_rangeCheck_23922 61 = .ok (.if_icmp .le 12, 3) := by decide +kernel
theorem dJ7_rangeCheck_23922_64 : decode cJ7_rangeCheck_23922 64 = .ok (.new 68, 3) := by decide +kernel
theorem dJ7_rangeCheck_23922_67 : decode cJ7_rangeCheck_23922 67 = .ok (.dup, 1) := by decide +kernel
theorem dJ7_rangeCheck_23922_68 : decode cJ7_rangeCheck_23922 68 = .ok (.iload_n 2, 1) := by decide +kernel
theorem dJ7_rangeCheck_23922_69 : decode cJ7_rangeCheck_23922 69 = .ok (.invokespecial 70, 3) := by decide +kernel
theorem dJ7_rangeCheck_23922_72 : decode cJ7_rangeCheck_23922 72 = .ok (.athrow, 1) := by decide +kernel
theorem dJ7_rangeCheck_23922_73 : decode cJ7_rangeCheck_23922 73 = .ok (.return_, 1) := by decide +kernel
def rmJ7_rangeCheck_23922 : Room := { frames := 0, cells := 0, slots := 0, locals := 0 }
abbrev eJ7_rangeCheck_23922 := Ev cJ7_rangeCheck_23922 3 none RJ7 rmJ7_rangeCheck_23922
set_option maxRecDepth 20000 in
theorem mt_J7_rangeCheck_23922 (p0 : Int32) (p1 : Int32) (p2 : Int32) (σ : St) (Q : St → Prop)  (hP : P_J7_rangeCheck_23922 p0 p1 p2 σ Q) : Mt yJ7_rangeCheck_23922 cJ7_rangeCheck_23922 3 none rmJ7_rangeCheck_23922 [.int (p0), .int (p1), .int (p2)] σ (qV Q) := by
  refine Mt.of (k := 0) (ls := [.int (p0), .int (p1), .int (p2)]) (by decide +kernel) rfl (Nat.le_of_ble_eq_true rfl) ?_
  show eJ7_rangeCheck_23922 0 [.int (p0), .int (p1), .int (p2)] [] σ _
  unfold P_J7_rangeCheck_23922 at hP
  refine E_iload_n dJ7_rangeCheck_23922_0 rfl ?_
  refine E_iload_n dJ7_rangeCheck_23922_1 rfl ?_
  refine E_icmp_le 46 dJ7_rangeCheck_23922_2 (by decide) (fun hc => ?_) (fun hc => ?_)
  · replace hP := hP.1 hc
    refine E_iload_n dJ7_rangeCheck_23922_46 rfl ?_
    refine E_if_ge 59 dJ7_rangeCheck_23922_47 (by decide) (fun hc => ?_) (fun hc => ?_)
    · replace hP := hP.1 hc
      refine E_iload_n dJ7_rangeCheck_23922_59 rfl ?_
      refine E_iload_n dJ7_rangeCheck_23922_60 rfl ?_
      refine E_icmp_le 73 dJ7_rangeCheck_23922_61 (by decide) (fun hc => ?_) (fun hc => ?_)
      · replace hP := hP.1 hc
        exact E_vret dJ7_rangeCheck_23922_73 rfl ⟨rfl, hP⟩
      · replace hP := hP.2 hc
        exact hP.elim
    · replace hP := hP.2 hc
      exact hP.elim
  · replace hP := hP.2 hc
    exact hP.elim
theorem dJ7_fill_bad5a_0 : decode cJ7_fill_bad5a 0 = .ok (.aload_n 0, 1) := by decide +kernel
theorem dJ7_fill_bad5a_1 : decode cJ7_fill_bad5a 1 = .ok (.arraylength, 1) := by decide +kernel
theorem dJ7_fill_bad5a_2 : decode cJ7_fill_bad5a 2 = .ok (.iload_n 1, 1) := by decide +kernel
theorem dJ7_fill_bad5a_3 : decode cJ7_fill_bad5a 3 = .ok (.iload_n 2, 1) := by decide +kernel
theorem dJ7_fill_bad5a_4 : decode cJ7_fill_bad5a 4 = .ok (.invokestatic 13, 3) := by decide +kernel
theorem dJ7_fill_bad5a_7 : decode cJ7_fill_bad5a 7 = .ok (.iload_n 1, 1) := by decide +kernel
theorem dJ7_fill_bad5a_8 : decode cJ7_fill_bad5a 8 = .ok (.istore 5, 2) := by decide +kernel
theorem dJ7_fill_bad5a_10 : decode cJ7_fill_bad5a 10 = .ok (.iload 5, 2) := by decide +kernel
theorem dJ7_fill_bad5a_12 : decode cJ7_fill_bad5a 12 = .ok (.iload_n 2, 1) := by decide +kernel
theorem dJ7_fill_bad5a_13 : decode cJ7_fill_bad5a 13 = .ok (.if_icmp .ge 14, 3) := by decide +kernel
theorem dJ7_fill_bad5a_16 : decode cJ7_fill_bad5a 16 = .ok (.aload_n 0, 1) := by decide +kernel
theorem dJ7_fill_bad5a_17 : decode cJ7_fill_bad5a 17 = .ok (.iload 5, 2) := by decide +kernel
theorem dJ7_fill_bad5a_19 : decode cJ7_fill_bad5a 19 = .ok (.lload_n 3, 1) := by decide +kernel
theorem dJ7_fill_bad5a_20 : decode cJ7_fill_bad5a 20 = .ok (.lastore, 1) := by decide +kernel
theorem dJ7_fill_bad5a_21 : decode cJ7_fill_bad5a 21 = .ok (.iinc 5 1, 3) := by decide +kernel
theorem dJ7_fill_bad5a_24 : decode cJ7_fill_bad5a 24 = .ok (.goto (-14), 3) := by decide +kernel
theorem dJ7_fill_bad5a_27 : decode cJ7_fill_bad5a 27 = .ok (.return_, 1) := by decide +kernel
def rmJ7_fill_bad5a : Room := { frames := 1, cells := 0, slots := 0, locals := 22 }
abbrev eJ7_fill_bad5a := Ev cJ7_fill_bad5a 6 none RJ7 rmJ7_fill_bad5a
set_option maxRecDepth 20000 in
theorem ev_J7_fill_bad5a_l10 (l0 : Nat) (l2 : Int32) (l3 : Int64) (o_l0 : kd (l0) = 9) (K : St → Prop) (Q : St → Prop) (hK : ∀  s, K  s → eJ7_fill_bad5a 27 [un, un, un, un, un, un] [] s (qV Q)) : ∀ (n : Nat) (l5 : Int32) (σ : St), P_J7_fill_bad5a_l10 l0 l2 l3 K Q n l5 σ → eJ7_fill_bad5a 10 [.ref (l0), un, .int (l2), .long (l3), un, .int (l5)] [] σ (qV Q) := by
  intro n
  induction n with
  | zero => intro l5 σ hP; exact hP.elim
  | succ n ih =>
    intro l5 σ hP
    rw [P_J7_fill_bad5a_l10] at hP
    refine E_iload dJ7_fill_bad5a_10 rfl ?_
    refine E_iload_n dJ7_fill_bad5a_12 rfl ?_
    refine E_icmp_ge 27 dJ7_fill_bad5a_13 (by decide) (fun hc => ?_) (fun hc => ?_)
    · replace hP := hP.1 hc
      refine E_mask [false, false, false, false, false, false] rfl ?_
      exact hK  _ hP
    · replace hP := hP.2 hc
      refine E_aload_n dJ7_fill_bad5a_16 rfl ?_
      refine E_iload dJ7_fill_bad5a_17 rfl ?_
      refine E_lload_n dJ7_fill_bad5a_19 rfl ?_
      obtain ⟨hb, hP⟩ := hP
      refine E_last dJ7_fill_bad5a_20 o_l0 rfl hb ?_
      refine E_iinc (ls' := [.ref (l0), un, .int (l2), .long (l3), un, .int (l5 + 1)]) dJ7_fill_bad5a_21 rfl rfl (by decide) rfl ?_
      refine E_goto 10 dJ7_fill_bad5a_24 (by decide) ?_
      exact ih (l5 + 1) _ hP
set_option maxRecDepth 20000 in
theorem mt_J7_fill_bad5a (p0 : Nat) (p1 : Int32) (p2 : Int32) (p3 : Int64) (σ : St) (Q : St → Prop) (o_p0 : kd p0 = 9) (hP : P_J7_fill_bad5a p0 p1 p2 p3 σ Q) : Mt yJ7_fill_bad5a cJ7_fill_bad5a 6 none rmJ7_fill_bad5a [.ref (p0), .int (p1), .int (p2), .long (p3)] σ (qV Q) := by
  refine Mt.of (k := 1) (ls := [.ref (p0), .int (p1), .int (p2), .long (p3), un, un]) (by decide +kernel) rfl (Nat.le_of_ble_eq_true rfl) ?_
  show eJ7_fill_bad5a 0 [.ref (p0), .int (p1), .int (p2), .long (p3), un, un] [] σ _
  unfold P_J7_fill_bad5a at hP
  refine E_aload_n dJ7_fill_bad5a_0 rfl ?_
  refine E_alenL (v := Int32.ofNat (ln p0)) dJ7_fill_bad5a_1 o_p0 rfl rfl ?_
  refine E_iload_n dJ7_fill_bad5a_2 rfl ?_
  refine E_iload_n dJ7_fill_bad5a_3 rfl ?_
  refine E_callS (As := [.int (Int32.ofNat (ln p0)), .int (p1), .int (p2)]) (rest := []) dJ7_fill_bad5a_4 cl_RJ7_13 tw_58 ⟨rfl, rfl, Nat.le_of_ble_eq_true rfl, Nat.le_of_ble_eq_true rfl⟩ rfl rfl (Nat.le_of_ble_eq_true rfl) (mt_J7_rangeCheck_23922 _ _ _ _ _  hP) ?_
  rintro _ t4 ⟨rfl, hP⟩
  show eJ7_fill_bad5a 7 [.ref (p0), .int (p1), .int (p2), .long (p3), un, un] [] t4 _
  refine E_iload_n dJ7_fill_bad5a_7 rfl ?_
  refine E_istore (ls' := [.ref (p0), .int (p1), .int (p2), .long (p3), un, .int (p1)]) dJ7_fill_bad5a_8 (by decide) rfl ?_
  refine E_mask [true, false, true, true, false, true] rfl ?_
  obtain ⟨m10, hP⟩ := hP
  refine ev_J7_fill_bad5a_l10 (p0) (p2) (p3) o_p0 _ Q ?_ m10 _ _ hP
  intro  t27 hP
  exact E_vret dJ7_fill_bad5a_27 rfl ⟨rfl, hP⟩
theorem dX2_tells_0 : decode cX2_tells 0 = .ok (.iload_n 1, 1) := by decide +kernel
theorem dX2_tells_1 : decode cX2_tells 1 = .ok (.aload_n 0, 1) := by decide +kernel
theorem dX2_tells_2 : decode cX2_tells 2 = .ok (.getfield 19, 3) := by decide +kernel
theorem dX2_tells_5 : decode cX2_tells 5 = .ok (.if_icmp .ge 19, 3) := by decide +kernel
theorem dX2_tells_8 : decode cX2_tells 8 = .ok (.aload_n 0, 1) := by decide +kernel
theorem dX2_tells_9 : decode cX2_tells 9 = .ok (.getfield 9, 3) := by decide +kernel
theorem dX2_tells_12 : decode cX2_tells 12 = .ok (.iload_n 1, 1) := by decide +kernel
theorem dX2_tells_13 : decode cX2_tells 13 = .ok (.laload, 1) := by decide +kernel
theorem dX2_tells_14 : decode cX2_tells 14 = .ok (.iload_n 2, 1) := by decide +kernel
theorem dX2_tells_15 : decode cX2_tells 15 = .ok (.i2l, 1) := by decide +kernel
theorem dX2_tells_16 : decode cX2_tells 16 = .ok (.lcmp, 1) := by decide +kernel
theorem dX2_tells_17 : decode cX2_tells 17 = .ok (.ifCond .ne 7, 3) := by decide +kernel
theorem dX2_tells_20 : decode cX2_tells 20 = .ok (.iconst 1, 1) := by decide +kernel
theorem dX2_tells_21 : decode cX2_tells 21 = .ok (.goto 4, 3) := by decide +kernel
theorem dX2_tells_24 : decode cX2_tells 24 = .ok (.iconst 0, 1) := by decide +kernel
theorem dX2_tells_25 : decode cX2_tells 25 = .ok (.ireturn, 1) := by decide +kernel
def rmX2_tells : Room := { frames := 0, cells := 0, slots := 0, locals := 0 }
abbrev eX2_tells := Ev cX2_tells 3 (some .boolean) RX2 rmX2_tells
set_option maxRecDepth 20000 in
theorem mt_X2_tells (a0 : Nat) (p0 : Int32) (p1 : Int32) (σ : St) (Q : Bool → Prop) (o_a0 : kd a0 = 2) (hP : P_X2_tells a0 p0 p1 σ Q) : Mt yX2_tells cX2_tells 3 (some .boolean) rmX2_tells [.ref (a0), .int (p0), .int (p1)] σ (qB fun x s => s = σ ∧ Q x) := by
  refine Mt.of (k := 0) (ls := [.ref (a0), .int (p0), .int (p1)]) (by decide +kernel) rfl (Nat.le_of_ble_eq_true rfl) ?_
  show eX2_tells 0 [.ref (a0), .int (p0), .int (p1)] [] σ _
  unfold P_X2_tells at hP
  refine E_iload_n dX2_tells_0 rfl ?_
  refine E_aload_n dX2_tells_1 rfl ?_
  refine E_getI (j := 2) dX2_tells_2 o_a0 (by decide) rfl fd_RX2_19 ?_
  refine E_icmp_ge 24 dX2_tells_5 (by decide) (fun hc => ?_) (fun hc => ?_)
  · replace hP := hP.1 hc
    refine E_iconst (v := 0) dX2_tells_24 (by decide) ?_
    exact E_nret dX2_tells_25 rfl (nar_b false) ⟨false, rfl, rfl, hP⟩
  · replace hP := hP.2 hc
    refine E_aload_n dX2_tells_8 rfl ?_
    refine E_getR (j := 0) dX2_tells_9 o_a0 (by decide) rfl fd_RX2_9 (by decide) ?_
    refine E_iload_n dX2_tells_12 rfl ?_
    obtain ⟨hb, hP⟩ := hP
    refine E_lald dX2_tells_13 (ar_2_1 o_a0).1 (ar_2_1 o_a0).2 hb ?_
    refine E_iload_n dX2_tells_14 rfl ?_
    refine E_i2l dX2_tells_15 ?_
    refine E_lcmp dX2_tells_16 ?_
    refine E_if_ne 24 dX2_tells_17 (by decide) (fun hc => ?_) (fun hc => ?_)
    · replace hP := hP.1 hc
      refine E_iconst (v := 0) dX2_tells_24 (by decide) ?_
      exact E_nret dX2_tells_25 rfl (nar_b false) ⟨false, rfl, rfl, hP⟩
    · replace hP := hP.2 hc
      refine E_iconst (v := 1) dX2_tells_20 (by decide) ?_
      refine E_goto 25 dX2_tells_21 (by decide) ?_
      exact E_nret dX2_tells_25 rfl (nar_b true) ⟨true, rfl, rfl, hP⟩
