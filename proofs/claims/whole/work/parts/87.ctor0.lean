/-! THE CONSTRUCTORS (printed by wip/whole/ctor.py) -/
theorem ra_i (U : State) (cA cB : ClassId) (h1 : va_RA U cA .int) (h2 : va_RA U cB .int) : cA = cB := Option.some.inj ((show U.vm.findClass _ = some cA from h1).symm.trans h2)
theorem ra_l (U : State) (cA cB : ClassId) (h1 : va_RA U cA .long) (h2 : va_RA U cB .long) : cA = cB := Option.some.inj ((show U.vm.findClass _ = some cA from h1).symm.trans h2)
theorem ra_z (U : State) (cA cB : ClassId) (h1 : va_RA U cA .boolean) (h2 : va_RA U cB .boolean) : cA = cB := Option.some.inj ((show U.vm.findClass _ = some cA from h1).symm.trans h2)
theorem tc_i : Cond.arrayClass (newarray.typeOf .int) ∈ Tg := tg_tab (List.mem_of_getElem? (i := 75) (by decide +kernel)) (by decide +kernel)
theorem tc_l : Cond.arrayClass (newarray.typeOf .long) ∈ Tg := tg_tab (List.mem_of_getElem? (i := 119) (by decide +kernel)) (by decide +kernel)
theorem tc_z : Cond.arrayClass (newarray.typeOf .boolean) ∈ Tg := tg_tab (List.mem_of_getElem? (i := 872) (by decide +kernel)) (by decide +kernel)
theorem tc_oi : Cond.instanceMethod Lib.objectInit ∈ Tg := tg_tab (List.mem_of_getElem? (i := 22) (by decide +kernel)) (by decide +kernel)
theorem tc_oc : Cond.code Lib.objectInit ⟨#[0xb1]⟩ 1 none ∈ Tg := tg_tab (List.mem_of_getElem? (i := 23) (by decide +kernel)) (by decide +kernel)
theorem df_0 : ∀ j, j < 9 → defaultValue (tyX0 j) = vp_V [.null, .null, .null, .null, .null, .int 0, .int 0, .int 0, .int 0] j := fun j hj => by rcases (show j = 0 ∨ j = 1 ∨ j = 2 ∨ j = 3 ∨ j = 4 ∨ j = 5 ∨ j = 6 ∨ j = 7 ∨ j = 8 by omega) with rfl | rfl | rfl | rfl | rfl | rfl | rfl | rfl | rfl <;> rfl
theorem df_1 : ∀ j, j < 2 → defaultValue (tyX1 j) = vp_V [.null, .null] j := fun j hj => by rcases (show j = 0 ∨ j = 1 by omega) with rfl | rfl <;> rfl
theorem df_2 : ∀ j, j < 3 → defaultValue (tyX2 j) = vp_V [.null, .int 0, .int 0] j := fun j hj => by rcases (show j = 0 ∨ j = 1 ∨ j = 2 by omega) with rfl | rfl | rfl <;> rfl
theorem df_3 : ∀ j, j < 6 → defaultValue (tyX3 j) = vp_V [.null, .null, .null, .int 0, .int 0, .int 0] j := fun j hj => by rcases (show j = 0 ∨ j = 1 ∨ j = 2 ∨ j = 3 ∨ j = 4 ∨ j = 5 by omega) with rfl | rfl | rfl | rfl | rfl | rfl <;> rfl
theorem df_4 : ∀ j, j < 6 → defaultValue (tyX4 j) = vp_V [.null, .int 0, .int 0, .int 0, .int 0, .int 0] j := fun j hj => by rcases (show j = 0 ∨ j = 1 ∨ j = 2 ∨ j = 3 ∨ j = 4 ∨ j = 5 by omega) with rfl | rfl | rfl | rfl | rfl | rfl <;> rfl
theorem df_5 : ∀ j, j < 3 → defaultValue (tyX5 j) = vp_V [.null, .null, .null] j := fun j hj => by rcases (show j = 0 ∨ j = 1 ∨ j = 2 by omega) with rfl | rfl | rfl <;> rfl
theorem df_6 : ∀ j, j < 9 → defaultValue (tyX6 j) = vp_V [.null, .null, .null, .null, .null, .null, .null, .null, .int 0] j := fun j hj => by rcases (show j = 0 ∨ j = 1 ∨ j = 2 ∨ j = 3 ∨ j = 4 ∨ j = 5 ∨ j = 6 ∨ j = 7 ∨ j = 8 by omega) with rfl | rfl | rfl | rfl | rfl | rfl | rfl | rfl | rfl <;> rfl
theorem df_7 : ∀ j, j < 23 → defaultValue (tyX7 j) = vp_V [.null, .null, .null, .null, .null, .null, .null, .null, .null, .int 0, .int 0, .int 0, .int 0, .long 0, .int 0, .int 0, .null, .null, .null, .null, .null, .null, .int 0] j := fun j hj => by rcases (show j = 0 ∨ j = 1 ∨ j = 2 ∨ j = 3 ∨ j = 4 ∨ j = 5 ∨ j = 6 ∨ j = 7 ∨ j = 8 ∨ j = 9 ∨ j = 10 ∨ j = 11 ∨ j = 12 ∨ j = 13 ∨ j = 14 ∨ j = 15 ∨ j = 16 ∨ j = 17 ∨ j = 18 ∨ j = 19 ∨ j = 20 ∨ j = 21 ∨ j = 22 by omega) with rfl | rfl | rfl | rfl | rfl | rfl | rfl | rfl | rfl | rfl | rfl | rfl | rfl | rfl | rfl | rfl | rfl | rfl | rfl | rfl | rfl | rfl | rfl <;> rfl
theorem twc_0 : Cond.methodLink RX0 3 Lib.objectInit ∈ Tg := tg_tab (List.mem_of_getElem? (i := 29) (by decide +kernel)) (by decide +kernel)
theorem twc_1 : Cond.fieldLink RX0 9 "WallDown$House" "kinds" "[I" ∈ Tg := tg_tab (List.mem_of_getElem? (i := 30) (by decide +kernel)) (by decide +kernel)
theorem twc_2 : Cond.fieldLink RX0 15 "WallDown$House" "highs" "[I" ∈ Tg := tg_tab (List.mem_of_getElem? (i := 33) (by decide +kernel)) (by decide +kernel)
theorem twc_3 : Cond.fieldLink RX0 18 "WallDown$House" "prices" "[I" ∈ Tg := tg_tab (List.mem_of_getElem? (i := 35) (by decide +kernel)) (by decide +kernel)
theorem twc_4 : Cond.fieldLink RX0 21 "WallDown$House" "counts" "[I" ∈ Tg := tg_tab (List.mem_of_getElem? (i := 37) (by decide +kernel)) (by decide +kernel)
theorem twc_5 : Cond.fieldLink RX0 24 "WallDown$House" "wedges" "[I" ∈ Tg := tg_tab (List.mem_of_getElem? (i := 41) (by decide +kernel)) (by decide +kernel)
theorem twc_6 : Cond.fieldLink RX0 27 "WallDown$House" "beams" "I" ∈ Tg := tg_tab (List.mem_of_getElem? (i := 45) (by decide +kernel)) (by decide +kernel)
theorem twc_7 : Cond.fieldLink RX0 31 "WallDown$House" "slack" "I" ∈ Tg := tg_tab (List.mem_of_getElem? (i := 48) (by decide +kernel)) (by decide +kernel)
theorem dX0_init_0 : decode cX0_init 0 = .ok (.aload_n 0, 1) := by decide +kernel
theorem dX0_init_1 : decode cX0_init 1 = .ok (.invokespecial 3, 3) := by decide +kernel
theorem dX0_init_4 : decode cX0_init 4 = .ok (.aload_n 0, 1) := by decide +kernel
theorem dX0_init_5 : decode cX0_init 5 = .ok (.bipush 28, 2) := by decide +kernel
theorem dX0_init_7 : decode cX0_init 7 = .ok (.newarray .int, 2) := by decide +kernel
theorem dX0_init_9 : decode cX0_init 9 = .ok (.putfield 9, 3) := by decide +kernel
theorem dX0_init_12 : decode cX0_init 12 = .ok (.aload_n 0, 1) := by decide +kernel
theorem dX0_init_13 : decode cX0_init 13 = .ok (.bipush 28, 2) := by decide +kernel
theorem dX0_init_15 : decode cX0_init 15 = .ok (.newarray .int, 2) := by decide +kernel
theorem dX0_init_17 : decode cX0_init 17 = .ok (.putfield 15, 3) := by decide +kernel
theorem dX0_init_20 : decode cX0_init 20 = .ok (.aload_n 0, 1) := by decide +kernel
theorem dX0_init_21 : decode cX0_init 21 = .ok (.bipush 28, 2) := by decide +kernel
theorem dX0_init_23 : decode cX0_init 23 = .ok (.newarray .int, 2) := by decide +kernel
theorem dX0_init_25 : decode cX0_init 25 = .ok (.putfield 18, 3) := by decide +kernel
theorem dX0_init_28 : decode cX0_init 28 = .ok (.aload_n 0, 1) := by decide +kernel
theorem dX0_init_29 : decode cX0_init 29 = .ok (.iconst 4, 1) := by decide +kernel
theorem dX0_init_30 : decode cX0_init 30 = .ok (.newarray .int, 2) := by decide +kernel
theorem dX0_init_32 : decode cX0_init 32 = .ok (.putfield 21, 3) := by decide +kernel
theorem dX0_init_35 : decode cX0_init 35 = .ok (.aload_n 0, 1) := by decide +kernel
theorem dX0_init_36 : decode cX0_init 36 = .ok (.iconst 4, 1) := by decide +kernel
theorem dX0_init_37 : decode cX0_init 37 = .ok (.newarray .int, 2) := by decide +kernel
theorem dX0_init_39 : decode cX0_init 39 = .ok (.putfield 24, 3) := by decide +kernel
theorem dX0_init_42 : decode cX0_init 42 = .ok (.aload_n 0, 1) := by decide +kernel
theorem dX0_init_43 : decode cX0_init 43 = .ok (.bipush 7, 2) := by decide +kernel
theorem dX0_init_45 : decode cX0_init 45 = .ok (.putfield 27, 3) := by decide +kernel
theorem dX0_init_48 : decode cX0_init 48 = .ok (.aload_n 0, 1) := by decide +kernel
theorem dX0_init_49 : decode cX0_init 49 = .ok (.bipush 10, 2) := by decide +kernel
theorem dX0_init_51 : decode cX0_init 51 = .ok (.putfield 31, 3) := by decide +kernel
theorem dX0_init_54 : decode cX0_init 54 = .ok (.return_, 1) := by decide +kernel
theorem fdc_0_9 : FdO RX0 9 0 0 := ⟨(RX0, TX0, 9), rfl, in_0, by decide, twc_1⟩
theorem ffc_0_0 : FfO RX0 0 0 (.array .int) := ⟨(RX0, TX0, 9), tyX0, rfl, tyX0_ok, nmX0, rfl, rfl, by decide +kernel⟩
theorem fdc_0_15 : FdO RX0 15 0 1 := ⟨(RX0, TX0, 9), rfl, in_0, by decide, twc_2⟩
theorem ffc_0_1 : FfO RX0 0 1 (.array .int) := ⟨(RX0, TX0, 9), tyX0, rfl, tyX0_ok, nmX0, rfl, rfl, by decide +kernel⟩
theorem fdc_0_18 : FdO RX0 18 0 2 := ⟨(RX0, TX0, 9), rfl, in_0, by decide, twc_3⟩
theorem ffc_0_2 : FfO RX0 0 2 (.array .int) := ⟨(RX0, TX0, 9), tyX0, rfl, tyX0_ok, nmX0, rfl, rfl, by decide +kernel⟩
theorem fdc_0_21 : FdO RX0 21 0 3 := ⟨(RX0, TX0, 9), rfl, in_0, by decide, twc_4⟩
theorem ffc_0_3 : FfO RX0 0 3 (.array .int) := ⟨(RX0, TX0, 9), tyX0, rfl, tyX0_ok, nmX0, rfl, rfl, by decide +kernel⟩
theorem fdc_0_24 : FdO RX0 24 0 4 := ⟨(RX0, TX0, 9), rfl, in_0, by decide, twc_5⟩
theorem ffc_0_4 : FfO RX0 0 4 (.array .int) := ⟨(RX0, TX0, 9), tyX0, rfl, tyX0_ok, nmX0, rfl, rfl, by decide +kernel⟩
theorem fdc_0_27 : FdO RX0 27 0 5 := ⟨(RX0, TX0, 9), rfl, in_0, by decide, twc_6⟩
theorem fdc_0_31 : FdO RX0 31 0 6 := ⟨(RX0, TX0, 9), rfl, in_0, by decide, twc_7⟩
def rmC0 : Room := { frames := 1, cells := 5, slots := 92, locals := 12 }
set_option maxRecDepth 20000 in
set_option maxHeartbeats 4000000 in
theorem c_House {k0 : Nat} (hb : k0 + 6 ≤ 65) (hE : ∀ (G : Gx) (j : Nat), j < 6 → ((.inr (0, [.ref (adO G (k0 + 1)), .ref (adO G (k0 + 2)), .ref (adO G (k0 + 3)), .ref (adO G (k0 + 4)), .ref (adO G (k0 + 5)), .int (nI 7), .int (nI 10), .int 0, .int 0]) :: (((((([] : List va_E) ++ [.inl (G.2.1.1, 28, .inl (fun _ => 0))]) ++ [.inl (G.2.1.1, 28, .inl (fun _ => 0))]) ++ [.inl (G.2.1.1, 28, .inl (fun _ => 0))]) ++ [.inl (G.2.1.1, 4, .inl (fun _ => 0))]) ++ [.inl (G.2.1.1, 4, .inl (fun _ => 0))])) : List va_E)[j]? = some (ceO G sg0 (k0 + j))) : Mc yX0_init cX0_init 1 rmC0 k0 6 0 [.null, .null, .null, .null, .null, .int 0, .int 0, .int 0, .int 0] := by
  refine Mc.of (k := 0) (ls := [.ref k0]) (by decide +kernel) rfl rfl (by decide) ?_
  show Cj cX0_init 1 RX0 rmC0 k0 6 0 [.ref k0] [] 0 0 (fun G => .inr (0, [.null, .null, .null, .null, .null, .int 0, .int 0, .int 0, .int 0]) :: ([] : List va_E))
  refine C_aload_n dX0_init_0 rfl (by omega) ?_
  refine C_obj dX0_init_1 twc_0 tc_oi tc_oc (by omega) (Nat.le_of_ble_eq_true rfl) (Nat.le_of_ble_eq_true rfl) ?_
  refine C_aload_n dX0_init_4 rfl (by omega) ?_
  refine C_bipush (v := nI 28) dX0_init_5 (by decide) ?_
  refine C_newa (k0 := k0) (R := rmC0) (ns := 0) (es := fun G => .inr (0, [.null, .null, .null, .null, .null, .int 0, .int 0, .int 0, .int 0]) :: ([] : List va_E)) (n := 0) (N := 28) (t0 := 0) (cI := fun G => G.2.1.1) (a0 := (28, .inl (fun _ => 0))) dX0_init_7 rfl tc_i (fun G => rfl) ra_i (fun _ => rfl) (fun G => rfl) (by omega) (by decide) (by decide) (Nat.le_of_ble_eq_true rfl) (Nat.le_of_ble_eq_true rfl) ?_
  refine C_putF (k0 := k0) (w := k0 + 1) (es1 := fun G => (([] : List va_E) ++ [.inl (G.2.1.1, 28, .inl (fun _ => 0))])) (ci := 0) (j := 0) (fs := fun G => [.null, .null, .null, .null, .null, .int 0, .int 0, .int 0, .int 0]) (ty := (.array .int)) dX0_init_9 fdc_0_9 ffc_0_0 (fun _ => ⟨rfl, rfl⟩) (fun G => Nat.le_of_ble_eq_true rfl) (by omega) (fun G => by show k0 + 2 ≤ 65; omega) ?_
  refine C_aload_n dX0_init_12 rfl (by omega) ?_
  refine C_bipush (v := nI 28) dX0_init_13 (by decide) ?_
  refine C_newa (k0 := k0) (R := rmC0) (ns := 28) (es := fun G => .inr (0, [.ref (adO G (k0 + 1)), .null, .null, .null, .null, .int 0, .int 0, .int 0, .int 0]) :: (([] : List va_E) ++ [.inl (G.2.1.1, 28, .inl (fun _ => 0))])) (n := 1) (N := 28) (t0 := 0) (cI := fun G => G.2.1.1) (a0 := (28, .inl (fun _ => 0))) dX0_init_15 rfl tc_i (fun G => rfl) ra_i (fun _ => rfl) (fun G => rfl) (by omega) (by decide) (by decide) (Nat.le_of_ble_eq_true rfl) (Nat.le_of_ble_eq_true rfl) ?_
  refine C_putF (k0 := k0) (w := k0 + 2) (es1 := fun G => ((([] : List va_E) ++ [.inl (G.2.1.1, 28, .inl (fun _ => 0))]) ++ [.inl (G.2.1.1, 28, .inl (fun _ => 0))])) (ci := 0) (j := 1) (fs := fun G => [.ref (adO G (k0 + 1)), .null, .null, .null, .null, .int 0, .int 0, .int 0, .int 0]) (ty := (.array .int)) dX0_init_17 fdc_0_15 ffc_0_1 (fun _ => ⟨rfl, rfl⟩) (fun G => Nat.le_of_ble_eq_true rfl) (by omega) (fun G => by show k0 + 3 ≤ 65; omega) ?_
  refine C_aload_n dX0_init_20 rfl (by omega) ?_
  refine C_bipush (v := nI 28) dX0_init_21 (by decide) ?_
  refine C_newa (k0 := k0) (R := rmC0) (ns := 56) (es := fun G => .inr (0, [.ref (adO G (k0 + 1)), .ref (adO G (k0 + 2)), .null, .null, .null, .int 0, .int 0, .int 0, .int 0]) :: ((([] : List va_E) ++ [.inl (G.2.1.1, 28, .inl (fun _ => 0))]) ++ [.inl (G.2.1.1, 28, .inl (fun _ => 0))])) (n := 2) (N := 28) (t0 := 0) (cI := fun G => G.2.1.1) (a0 := (28, .inl (fun _ => 0))) dX0_init_23 rfl tc_i (fun G => rfl) ra_i (fun _ => rfl) (fun G => rfl) (by omega) (by decide) (by decide) (Nat.le_of_ble_eq_true rfl) (Nat.le_of_ble_eq_true rfl) ?_
  refine C_putF (k0 := k0) (w := k0 + 3) (es1 := fun G => (((([] : List va_E) ++ [.inl (G.2.1.1, 28, .inl (fun _ => 0))]) ++ [.inl (G.2.1.1, 28, .inl (fun _ => 0))]) ++ [.inl (G.2.1.1, 28, .inl (fun _ => 0))])) (ci := 0) (j := 2) (fs := fun G => [.ref (adO G (k0 + 1)), .ref (adO G (k0 + 2)), .null, .null, .null, .int 0, .int 0, .int 0, .int 0]) (ty := (.array .int)) dX0_init_25 fdc_0_18 ffc_0_2 (fun _ => ⟨rfl, rfl⟩) (fun G => Nat.le_of_ble_eq_true rfl) (by omega) (fun G => by show k0 + 4 ≤ 65; omega) ?_
  refine C_aload_n dX0_init_28 rfl (by omega) ?_
  refine C_iconst (v := nI 4) dX0_init_29 (by decide) ?_
  refine C_newa (k0 := k0) (R := rmC0) (ns := 84) (es := fun G => .inr (0, [.ref (adO G (k0 + 1)), .ref (adO G (k0 + 2)), .ref (adO G (k0 + 3)), .null, .null, .int 0, .int 0, .int 0, .int 0]) :: (((([] : List va_E) ++ [.inl (G.2.1.1, 28, .inl (fun _ => 0))]) ++ [.inl (G.2.1.1, 28, .inl (fun _ => 0))]) ++ [.inl (G.2.1.1, 28, .inl (fun _ => 0))])) (n := 3) (N := 4) (t0 := 0) (cI := fun G => G.2.1.1) (a0 := (4, .inl (fun _ => 0))) dX0_init_30 rfl tc_i (fun G => rfl) ra_i (fun _ => rfl) (fun G => rfl) (by omega) (by decide) (by decide) (Nat.le_of_ble_eq_true rfl) (Nat.le_of_ble_eq_true rfl) ?_
  refine C_putF (k0 := k0) (w := k0 + 4) (es1 := fun G => ((((([] : List va_E) ++ [.inl (G.2.1.1, 28, .inl (fun _ => 0))]) ++ [.inl (G.2.1.1, 28, .inl (fun _ => 0))]) ++ [.inl (G.2.1.1, 28, .inl (fun _ => 0))]) ++ [.inl (G.2.1.1, 4, .inl (fun _ => 0))])) (ci := 0) (j := 3) (fs := fun G => [.ref (adO G (k0 + 1)), .ref (adO G (k0 + 2)), .ref (adO G (k0 + 3)), .null, .null, .int 0, .int 0, .int 0, .int 0]) (ty := (.array .int)) dX0_init_32 fdc_0_21 ffc_0_3 (fun _ => ⟨rfl, rfl⟩) (fun G => Nat.le_of_ble_eq_true rfl) (by omega) (fun G => by show k0 + 5 ≤ 65; omega) ?_
  refine C_aload_n dX0_init_35 rfl (by omega) ?_
  refine C_iconst (v := nI 4) dX0_init_36 (by decide) ?_
  refine C_newa (k0 := k0) (R := rmC0) (ns := 88) (es := fun G => .inr (0, [.ref (adO G (k0 + 1)), .ref (adO G (k0 + 2)), .ref (adO G (k0 + 3)), .ref (adO G (k0 + 4)), .null, .int 0, .int 0, .int 0, .int 0]) :: ((((([] : List va_E) ++ [.inl (G.2.1.1, 28, .inl (fun _ => 0))]) ++ [.inl (G.2.1.1, 28, .inl (fun _ => 0))]) ++ [.inl (G.2.1.1, 28, .inl (fun _ => 0))]) ++ [.inl (G.2.1.1, 4, .inl (fun _ => 0))])) (n := 4) (N := 4) (t0 := 0) (cI := fun G => G.2.1.1) (a0 := (4, .inl (fun _ => 0))) dX0_init_37 rfl tc_i (fun G => rfl) ra_i (fun _ => rfl) (fun G => rfl) (by omega) (by decide) (by decide) (Nat.le_of_ble_eq_true rfl) (Nat.le_of_ble_eq_true rfl) ?_
  refine C_putF (k0 := k0) (w := k0 + 5) (es1 := fun G => (((((([] : List va_E) ++ [.inl (G.2.1.1, 28, .inl (fun _ => 0))]) ++ [.inl (G.2.1.1, 28, .inl (fun _ => 0))]) ++ [.inl (G.2.1.1, 28, .inl (fun _ => 0))]) ++ [.inl (G.2.1.1, 4, .inl (fun _ => 0))]) ++ [.inl (G.2.1.1, 4, .inl (fun _ => 0))])) (ci := 0) (j := 4) (fs := fun G => [.ref (adO G (k0 + 1)), .ref (adO G (k0 + 2)), .ref (adO G (k0 + 3)), .ref (adO G (k0 + 4)), .null, .int 0, .int 0, .int 0, .int 0]) (ty := (.array .int)) dX0_init_39 fdc_0_24 ffc_0_4 (fun _ => ⟨rfl, rfl⟩) (fun G => Nat.le_of_ble_eq_true rfl) (by omega) (fun G => by show k0 + 6 ≤ 65; omega) ?_
  refine C_aload_n dX0_init_42 rfl (by omega) ?_
  refine C_bipush (v := nI 7) dX0_init_43 (by decide) ?_
  refine C_putI (k0 := k0) (es1 := fun G => (((((([] : List va_E) ++ [.inl (G.2.1.1, 28, .inl (fun _ => 0))]) ++ [.inl (G.2.1.1, 28, .inl (fun _ => 0))]) ++ [.inl (G.2.1.1, 28, .inl (fun _ => 0))]) ++ [.inl (G.2.1.1, 4, .inl (fun _ => 0))]) ++ [.inl (G.2.1.1, 4, .inl (fun _ => 0))])) (ci := 0) (j := 5) (fs := fun G => [.ref (adO G (k0 + 1)), .ref (adO G (k0 + 2)), .ref (adO G (k0 + 3)), .ref (adO G (k0 + 4)), .ref (adO G (k0 + 5)), .int 0, .int 0, .int 0, .int 0]) dX0_init_45 fdc_0_27 fp_0_5 (fun G => Nat.le_of_ble_eq_true rfl) (fun G => by show k0 + 6 ≤ 65; omega) ?_
  refine C_aload_n dX0_init_48 rfl (by omega) ?_
  refine C_bipush (v := nI 10) dX0_init_49 (by decide) ?_
  refine C_putI (k0 := k0) (es1 := fun G => (((((([] : List va_E) ++ [.inl (G.2.1.1, 28, .inl (fun _ => 0))]) ++ [.inl (G.2.1.1, 28, .inl (fun _ => 0))]) ++ [.inl (G.2.1.1, 28, .inl (fun _ => 0))]) ++ [.inl (G.2.1.1, 4, .inl (fun _ => 0))]) ++ [.inl (G.2.1.1, 4, .inl (fun _ => 0))])) (ci := 0) (j := 6) (fs := fun G => [.ref (adO G (k0 + 1)), .ref (adO G (k0 + 2)), .ref (adO G (k0 + 3)), .ref (adO G (k0 + 4)), .ref (adO G (k0 + 5)), .int (nI 7), .int 0, .int 0, .int 0]) dX0_init_51 fdc_0_31 fp_0_6 (fun G => Nat.le_of_ble_eq_true rfl) (fun G => by show k0 + 6 ≤ 65; omega) ?_
  exact C_ret (es := fun G => (.inr (0, [.ref (adO G (k0 + 1)), .ref (adO G (k0 + 2)), .ref (adO G (k0 + 3)), .ref (adO G (k0 + 4)), .ref (adO G (k0 + 5)), .int (nI 7), .int (nI 10), .int 0, .int 0]) :: (((((([] : List va_E) ++ [.inl (G.2.1.1, 28, .inl (fun _ => 0))]) ++ [.inl (G.2.1.1, 28, .inl (fun _ => 0))]) ++ [.inl (G.2.1.1, 28, .inl (fun _ => 0))]) ++ [.inl (G.2.1.1, 4, .inl (fun _ => 0))]) ++ [.inl (G.2.1.1, 4, .inl (fun _ => 0))]))) dX0_init_54 rfl rfl (fun G j hj => ⟨ceO G sg0 (k0 + j), hE G j hj, fun _ _ h => h⟩)
theorem c_House1 : Mc yX0_init cX0_init 1 rmC0 1 6 0 [.null, .null, .null, .null, .null, .int 0, .int 0, .int 0, .int 0] := c_House (by decide) (fun G j hj => by rcases (show j = 0 ∨ j = 1 ∨ j = 2 ∨ j = 3 ∨ j = 4 ∨ j = 5 by omega) with rfl | rfl | rfl | rfl | rfl | rfl <;> rfl)
theorem c_House7 : Mc yX0_init cX0_init 1 rmC0 7 6 0 [.null, .null, .null, .null, .null, .int 0, .int 0, .int 0, .int 0] := c_House (by decide) (fun G j hj => by rcases (show j = 0 ∨ j = 1 ∨ j = 2 ∨ j = 3 ∨ j = 4 ∨ j = 5 by omega) with rfl | rfl | rfl | rfl | rfl | rfl <;> rfl)
theorem c_House13 : Mc yX0_init cX0_init 1 rmC0 13 6 0 [.null, .null, .null, .null, .null, .int 0, .int 0, .int 0, .int 0] := c_House (by decide) (fun G j hj => by rcases (show j = 0 ∨ j = 1 ∨ j = 2 ∨ j = 3 ∨ j = 4 ∨ j = 5 by omega) with rfl | rfl | rfl | rfl | rfl | rfl <;> rfl)
theorem c_House29 : Mc yX0_init cX0_init 1 rmC0 29 6 0 [.null, .null, .null, .null, .null, .int 0, .int 0, .int 0, .int 0] := c_House (by decide) (fun G j hj => by rcases (show j = 0 ∨ j = 1 ∨ j = 2 ∨ j = 3 ∨ j = 4 ∨ j = 5 by omega) with rfl | rfl | rfl | rfl | rfl | rfl <;> rfl)
theorem twc_8 : Cond.methodLink RX3 3 Lib.objectInit ∈ Tg := tg_tab (List.mem_of_getElem? (i := 81) (by decide +kernel)) (by decide +kernel)
theorem twc_9 : Cond.fieldLink RX3 11 "WallDown$Survey" "tops" "[I" ∈ Tg := tg_tab (List.mem_of_getElem? (i := 82) (by decide +kernel)) (by decide +kernel)
theorem twc_10 : Cond.fieldLink RX3 15 "WallDown$Survey" "coinsOut" "[I" ∈ Tg := tg_tab (List.mem_of_getElem? (i := 83) (by decide +kernel)) (by decide +kernel)
theorem twc_11 : Cond.fieldLink RX3 18 "WallDown$Survey" "lowestKinds" "[I" ∈ Tg := tg_tab (List.mem_of_getElem? (i := 84) (by decide +kernel)) (by decide +kernel)
theorem dX3_init_0 : decode cX3_init 0 = .ok (.aload_n 0, 1) := by decide +kernel
theorem dX3_init_1 : decode cX3_init 1 = .ok (.invokespecial 3, 3) := by decide +kernel
theorem dX3_init_4 : decode cX3_init 4 = .ok (.aload_n 0, 1) := by decide +kernel
theorem dX3_init_5 : decode cX3_init 5 = .ok (.bipush 32, 2) := by decide +kernel
theorem dX3_init_7 : decode cX3_init 7 = .ok (.newarray .int, 2) := by decide +kernel
theorem dX3_init_9 : decode cX3_init 9 = .ok (.putfield 11, 3) := by decide +kernel
theorem dX3_init_12 : decode cX3_init 12 = .ok (.aload_n 0, 1) := by decide +kernel
theorem dX3_init_13 : decode cX3_init 13 = .ok (.bipush 32, 2) := by decide +kernel
theorem dX3_init_15 : decode cX3_init 15 = .ok (.newarray .int, 2) := by decide +kernel
theorem dX3_init_17 : decode cX3_init 17 = .ok (.putfield 15, 3) := by decide +kernel
theorem dX3_init_20 : decode cX3_init 20 = .ok (.aload_n 0, 1) := by decide +kernel
theorem dX3_init_21 : decode cX3_init 21 = .ok (.bipush 32, 2) := by decide +kernel
theorem dX3_init_23 : decode cX3_init 23 = .ok (.newarray .int, 2) := by decide +kernel
theorem dX3_init_25 : decode cX3_init 25 = .ok (.putfield 18, 3) := by decide +kernel
theorem dX3_init_28 : decode cX3_init 28 = .ok (.return_, 1) := by decide +kernel
theorem fdc_3_11 : FdO RX3 11 3 0 := ⟨(RX3, TX3, 6), rfl, in_3, by decide, twc_9⟩
theorem ffc_3_0 : FfO RX3 3 0 (.array .int) := ⟨(RX3, TX3, 6), tyX3, rfl, tyX3_ok, nmX3, rfl, rfl, by decide +kernel⟩
theorem fdc_3_15 : FdO RX3 15 3 1 := ⟨(RX3, TX3, 6), rfl, in_3, by decide, twc_10⟩
theorem ffc_3_1 : FfO RX3 3 1 (.array .int) := ⟨(RX3, TX3, 6), tyX3, rfl, tyX3_ok, nmX3, rfl, rfl, by decide +kernel⟩
theorem fdc_3_18 : FdO RX3 18 3 2 := ⟨(RX3, TX3, 6), rfl, in_3, by decide, twc_11⟩
theorem ffc_3_2 : FfO RX3 3 2 (.array .int) := ⟨(RX3, TX3, 6), tyX3, rfl, tyX3_ok, nmX3, rfl, rfl, by decide +kernel⟩
def rmC3 : Room := { frames := 1, cells := 3, slots := 96, locals := 12 }
set_option maxRecDepth 20000 in
set_option maxHeartbeats 4000000 in
theorem c_Survey {k0 : Nat} (hb : k0 + 4 ≤ 65) (hE : ∀ (G : Gx) (j : Nat), j < 4 → ((.inr (3, [.ref (adO G (k0 + 1)), .ref (adO G (k0 + 2)), .ref (adO G (k0 + 3)), .int 0, .int 0, .int 0]) :: (((([] : List va_E) ++ [.inl (G.2.1.1, 32, .inl (fun _ => 0))]) ++ [.inl (G.2.1.1, 32, .inl (fun _ => 0))]) ++ [.inl (G.2.1.1, 32, .inl (fun _ => 0))])) : List va_E)[j]? = some (ceO G sg0 (k0 + j))) : Mc yX3_init cX3_init 1 rmC3 k0 4 3 [.null, .null, .null, .int 0, .int 0, .int 0] := by
  refine Mc.of (k := 0) (ls := [.ref k0]) (by decide +kernel) rfl rfl (by decide) ?_
  show Cj cX3_init 1 RX3 rmC3 k0 4 0 [.ref k0] [] 0 0 (fun G => .inr (3, [.null, .null, .null, .int 0, .int 0, .int 0]) :: ([] : List va_E))
  refine C_aload_n dX3_init_0 rfl (by omega) ?_
  refine C_obj dX3_init_1 twc_8 tc_oi tc_oc (by omega) (Nat.le_of_ble_eq_true rfl) (Nat.le_of_ble_eq_true rfl) ?_
  refine C_aload_n dX3_init_4 rfl (by omega) ?_
  refine C_bipush (v := nI 32) dX3_init_5 (by decide) ?_
  refine C_newa (k0 := k0) (R := rmC3) (ns := 0) (es := fun G => .inr (3, [.null, .null, .null, .int 0, .int 0, .int 0]) :: ([] : List va_E)) (n := 0) (N := 32) (t0 := 0) (cI := fun G => G.2.1.1) (a0 := (32, .inl (fun _ => 0))) dX3_init_7 rfl tc_i (fun G => rfl) ra_i (fun _ => rfl) (fun G => rfl) (by omega) (by decide) (by decide) (Nat.le_of_ble_eq_true rfl) (Nat.le_of_ble_eq_true rfl) ?_
  refine C_putF (k0 := k0) (w := k0 + 1) (es1 := fun G => (([] : List va_E) ++ [.inl (G.2.1.1, 32, .inl (fun _ => 0))])) (ci := 3) (j := 0) (fs := fun G => [.null, .null, .null, .int 0, .int 0, .int 0]) (ty := (.array .int)) dX3_init_9 fdc_3_11 ffc_3_0 (fun _ => ⟨rfl, rfl⟩) (fun G => Nat.le_of_ble_eq_true rfl) (by omega) (fun G => by show k0 + 2 ≤ 65; omega) ?_
  refine C_aload_n dX3_init_12 rfl (by omega) ?_
  refine C_bipush (v := nI 32) dX3_init_13 (by decide) ?_
  refine C_newa (k0 := k0) (R := rmC3) (ns := 32) (es := fun G => .inr (3, [.ref (adO G (k0 + 1)), .null, .null, .int 0, .int 0, .int 0]) :: (([] : List va_E) ++ [.inl (G.2.1.1, 32, .inl (fun _ => 0))])) (n := 1) (N := 32) (t0 := 0) (cI := fun G => G.2.1.1) (a0 := (32, .inl (fun _ => 0))) dX3_init_15 rfl tc_i (fun G => rfl) ra_i (fun _ => rfl) (fun G => rfl) (by omega) (by decide) (by decide) (Nat.le_of_ble_eq_true rfl) (Nat.le_of_ble_eq_true rfl) ?_
  refine C_putF (k0 := k0) (w := k0 + 2) (es1 := fun G => ((([] : List va_E) ++ [.inl (G.2.1.1, 32, .inl (fun _ => 0))]) ++ [.inl (G.2.1.1, 32, .inl (fun _ => 0))])) (ci := 3) (j := 1) (fs := fun G => [.ref (adO G (k0 + 1)), .null, .null, .int 0, .int 0, .int 0]) (ty := (.array .int)) dX3_init_17 fdc_3_15 ffc_3_1 (fun _ => ⟨rfl, rfl⟩) (fun G => Nat.le_of_ble_eq_true rfl) (by omega) (fun G => by show k0 + 3 ≤ 65; omega) ?_
  refine C_aload_n dX3_init_20 rfl (by omega) ?_
  refine C_bipush (v := nI 32) dX3_init_21 (by decide) ?_
  refine C_newa (k0 := k0) (R := rmC3) (ns := 64) (es := fun G => .inr (3, [.ref (adO G (k0 + 1)), .ref (adO G (k0 + 2)), .null, .int 0, .int 0, .int 0]) :: ((([] : List va_E) ++ [.inl (G.2.1.1, 32, .inl (fun _ => 0))]) ++ [.inl (G.2.1.1, 32, .inl (fun _ => 0))])) (n := 2) (N := 32) (t0 := 0) (cI := fun G => G.2.1.1) (a0 := (32, .inl (fun _ => 0))) dX3_init_23 rfl tc_i (fun G => rfl) ra_i (fun _ => rfl) (fun G => rfl) (by omega) (by decide) (by decide) (Nat.le_of_ble_eq_true rfl) (Nat.le_of_ble_eq_true rfl) ?_
  refine C_putF (k0 := k0) (w := k0 + 3) (es1 := fun G => (((([] : List va_E) ++ [.inl (G.2.1.1, 32, .inl (fun _ => 0))]) ++ [.inl (G.2.1.1, 32, .inl (fun _ => 0))]) ++ [.inl (G.2.1.1, 32, .inl (fun _ => 0))])) (ci := 3) (j := 2) (fs := fun G => [.ref (adO G (k0 + 1)), .ref (adO G (k0 + 2)), .null, .int 0, .int 0, .int 0]) (ty := (.array .int)) dX3_init_25 fdc_3_18 ffc_3_2 (fun _ => ⟨rfl, rfl⟩) (fun G => Nat.le_of_ble_eq_true rfl) (by omega) (fun G => by show k0 + 4 ≤ 65; omega) ?_
  exact C_ret (es := fun G => (.inr (3, [.ref (adO G (k0 + 1)), .ref (adO G (k0 + 2)), .ref (adO G (k0 + 3)), .int 0, .int 0, .int 0]) :: (((([] : List va_E) ++ [.inl (G.2.1.1, 32, .inl (fun _ => 0))]) ++ [.inl (G.2.1.1, 32, .inl (fun _ => 0))]) ++ [.inl (G.2.1.1, 32, .inl (fun _ => 0))]))) dX3_init_28 rfl rfl (fun G j hj => ⟨ceO G sg0 (k0 + j), hE G j hj, fun _ _ h => h⟩)
theorem c_Survey19 : Mc yX3_init cX3_init 1 rmC3 19 4 3 [.null, .null, .null, .int 0, .int 0, .int 0] := c_Survey (by decide) (fun G j hj => by rcases (show j = 0 ∨ j = 1 ∨ j = 2 ∨ j = 3 by omega) with rfl | rfl | rfl | rfl <;> rfl)
theorem c_Survey35 : Mc yX3_init cX3_init 1 rmC3 35 4 3 [.null, .null, .null, .int 0, .int 0, .int 0] := c_Survey (by decide) (fun G j hj => by rcases (show j = 0 ∨ j = 1 ∨ j = 2 ∨ j = 3 by omega) with rfl | rfl | rfl | rfl <;> rfl)
theorem twc_12 : Cond.methodLink RX2 3 Lib.objectInit ∈ Tg := tg_tab (List.mem_of_getElem? (i := 177) (by decide +kernel)) (by decide +kernel)
theorem twc_13 : Cond.fieldLink RX2 9 "WallDown$Sheet" "numbers" "[J" ∈ Tg := tg_tab (List.mem_of_getElem? (i := 178) (by decide +kernel)) (by decide +kernel)
theorem dX2_init_0 : decode cX2_init 0 = .ok (.aload_n 0, 1) := by decide +kernel
theorem dX2_init_1 : decode cX2_init 1 = .ok (.invokespecial 3, 3) := by decide +kernel
theorem dX2_init_4 : decode cX2_init 4 = .ok (.aload_n 0, 1) := by decide +kernel
theorem dX2_init_5 : decode cX2_init 5 = .ok (.bipush 40, 2) := by decide +kernel
theorem dX2_init_7 : decode cX2_init 7 = .ok (.newarray .long, 2) := by decide +kernel
theorem dX2_init_9 : decode cX2_init 9 = .ok (.putfield 9, 3) := by decide +kernel
theorem dX2_init_12 : decode cX2_init 12 = .ok (.return_, 1) := by decide +kernel
theorem fdc_2_9 : FdO RX2 9 2 0 := ⟨(RX2, TX2, 3), rfl, in_2, by decide, twc_13⟩
theorem ffc_2_0 : FfO RX2 2 0 (.array .long) := ⟨(RX2, TX2, 3), tyX2, rfl, tyX2_ok, nmX2, rfl, rfl, by decide +kernel⟩
def rmC2 : Room := { frames := 1, cells := 1, slots := 40, locals := 12 }
set_option maxRecDepth 20000 in
set_option maxHeartbeats 4000000 in
theorem c_Sheet {k0 : Nat} (hb : k0 + 2 ≤ 65) (hE : ∀ (G : Gx) (j : Nat), j < 2 → ((.inr (2, [.ref (adO G (k0 + 1)), .int 0, .int 0]) :: (([] : List va_E) ++ [.inl (G.2.1.2.1, 40, .inr (.inl (fun _ => 0)))])) : List va_E)[j]? = some (ceO G sg0 (k0 + j))) : Mc yX2_init cX2_init 1 rmC2 k0 2 2 [.null, .int 0, .int 0] := by
  refine Mc.of (k := 0) (ls := [.ref k0]) (by decide +kernel) rfl rfl (by decide) ?_
  show Cj cX2_init 1 RX2 rmC2 k0 2 0 [.ref k0] [] 0 0 (fun G => .inr (2, [.null, .int 0, .int 0]) :: ([] : List va_E))
  refine C_aload_n dX2_init_0 rfl (by omega) ?_
  refine C_obj dX2_init_1 twc_12 tc_oi tc_oc (by omega) (Nat.le_of_ble_eq_true rfl) (Nat.le_of_ble_eq_true rfl) ?_
  refine C_aload_n dX2_init_4 rfl (by omega) ?_
  refine C_bipush (v := nI 40) dX2_init_5 (by decide) ?_
  refine C_newa (k0 := k0) (R := rmC2) (ns := 0) (es := fun G => .inr (2, [.null, .int 0, .int 0]) :: ([] : List va_E)) (n := 0) (N := 40) (t0 := 1) (cI := fun G => G.2.1.2.1) (a0 := (40, .inr (.inl (fun _ => 0)))) dX2_init_7 rfl tc_l (fun G => rfl) ra_l (fun _ => rfl) (fun G => rfl) (by omega) (by decide) (by decide) (Nat.le_of_ble_eq_true rfl) (Nat.le_of_ble_eq_true rfl) ?_
  refine C_putF (k0 := k0) (w := k0 + 1) (es1 := fun G => (([] : List va_E) ++ [.inl (G.2.1.2.1, 40, .inr (.inl (fun _ => 0)))])) (ci := 2) (j := 0) (fs := fun G => [.null, .int 0, .int 0]) (ty := (.array .long)) dX2_init_9 fdc_2_9 ffc_2_0 (fun _ => ⟨rfl, rfl⟩) (fun G => Nat.le_of_ble_eq_true rfl) (by omega) (fun G => by show k0 + 2 ≤ 65; omega) ?_
  exact C_ret (es := fun G => (.inr (2, [.ref (adO G (k0 + 1)), .int 0, .int 0]) :: (([] : List va_E) ++ [.inl (G.2.1.2.1, 40, .inr (.inl (fun _ => 0)))]))) dX2_init_12 rfl rfl (fun G j hj => ⟨ceO G sg0 (k0 + j), hE G j hj, fun _ _ h => h⟩)
theorem c_Sheet41 : Mc yX2_init cX2_init 1 rmC2 41 2 2 [.null, .int 0, .int 0] := c_Sheet (by decide) (fun G j hj => by rcases (show j = 0 ∨ j = 1 by omega) with rfl | rfl <;> rfl)
theorem c_Sheet43 : Mc yX2_init cX2_init 1 rmC2 43 2 2 [.null, .int 0, .int 0] := c_Sheet (by decide) (fun G j hj => by rcases (show j = 0 ∨ j = 1 by omega) with rfl | rfl <;> rfl)
theorem c_Sheet45 : Mc yX2_init cX2_init 1 rmC2 45 2 2 [.null, .int 0, .int 0] := c_Sheet (by decide) (fun G j hj => by rcases (show j = 0 ∨ j = 1 by omega) with rfl | rfl <;> rfl)
theorem c_Sheet47 : Mc yX2_init cX2_init 1 rmC2 47 2 2 [.null, .int 0, .int 0] := c_Sheet (by decide) (fun G j hj => by rcases (show j = 0 ∨ j = 1 by omega) with rfl | rfl <;> rfl)
theorem twc_14 : Cond.methodLink RX1 3 Lib.objectInit ∈ Tg := tg_tab (List.mem_of_getElem? (i := 110) (by decide +kernel)) (by decide +kernel)
theorem twc_15 : Cond.fieldLink RX1 11 "WallDown$Rows" "ways" "[J" ∈ Tg := tg_tab (List.mem_of_getElem? (i := 111) (by decide +kernel)) (by decide +kernel)
theorem twc_16 : Cond.fieldLink RX1 17 "WallDown$Rows" "best" "[I" ∈ Tg := tg_tab (List.mem_of_getElem? (i := 113) (by decide +kernel)) (by decide +kernel)
theorem dX1_init_0 : decode cX1_init 0 = .ok (.aload_n 0, 1) := by decide +kernel
theorem dX1_init_1 : decode cX1_init 1 = .ok (.invokespecial 3, 3) := by decide +kernel
theorem dX1_init_4 : decode cX1_init 4 = .ok (.aload_n 0, 1) := by decide +kernel
theorem dX1_init_5 : decode cX1_init 5 = .ok (.sipush 4096, 3) := by decide +kernel
theorem dX1_init_8 : decode cX1_init 8 = .ok (.newarray .long, 2) := by decide +kernel
theorem dX1_init_10 : decode cX1_init 10 = .ok (.putfield 11, 3) := by decide +kernel
theorem dX1_init_13 : decode cX1_init 13 = .ok (.aload_n 0, 1) := by decide +kernel
theorem dX1_init_14 : decode cX1_init 14 = .ok (.bipush 29, 2) := by decide +kernel
theorem dX1_init_16 : decode cX1_init 16 = .ok (.newarray .int, 2) := by decide +kernel
theorem dX1_init_18 : decode cX1_init 18 = .ok (.putfield 17, 3) := by decide +kernel
theorem dX1_init_21 : decode cX1_init 21 = .ok (.return_, 1) := by decide +kernel
theorem fdc_1_11 : FdO RX1 11 1 0 := ⟨(RX1, TX1, 2), rfl, in_1, by decide, twc_15⟩
theorem ffc_1_0 : FfO RX1 1 0 (.array .long) := ⟨(RX1, TX1, 2), tyX1, rfl, tyX1_ok, nmX1, rfl, rfl, by decide +kernel⟩
theorem fdc_1_17 : FdO RX1 17 1 1 := ⟨(RX1, TX1, 2), rfl, in_1, by decide, twc_16⟩
theorem ffc_1_1 : FfO RX1 1 1 (.array .int) := ⟨(RX1, TX1, 2), tyX1, rfl, tyX1_ok, nmX1, rfl, rfl, by decide +kernel⟩
def rmC1 : Room := { frames := 1, cells := 2, slots := 4125, locals := 12 }
set_option maxRecDepth 20000 in
set_option maxHeartbeats 4000000 in
theorem c_Rows : Mc yX1_init cX1_init 1 rmC1 23 3 1 [.null, .null] := by
  refine Mc.of (k := 0) (ls := [.ref 23]) (by decide +kernel) rfl rfl (by decide) ?_
  show Cj cX1_init 1 RX1 rmC1 23 3 0 [.ref 23] [] 0 0 (fun G => .inr (1, [.null, .null]) :: ([] : List va_E))
  refine C_aload_n dX1_init_0 rfl (by omega) ?_
  refine C_obj dX1_init_1 twc_14 tc_oi tc_oc (by omega) (Nat.le_of_ble_eq_true rfl) (Nat.le_of_ble_eq_true rfl) ?_
  refine C_aload_n dX1_init_4 rfl (by omega) ?_
  refine C_sipush (v := nI 4096) dX1_init_5 (by decide) ?_
  refine C_newa (k0 := 23) (R := rmC1) (ns := 0) (es := fun G => .inr (1, [.null, .null]) :: ([] : List va_E)) (n := 0) (N := 4096) (t0 := 1) (cI := fun G => G.2.1.2.1) (a0 := (4096, .inr (.inl (fun _ => 0)))) dX1_init_8 rfl tc_l (fun G => rfl) ra_l (fun _ => rfl) (fun G => rfl) (by decide) (by decide) (by decide) (Nat.le_of_ble_eq_true rfl) (Nat.le_of_ble_eq_true rfl) ?_
  refine C_putF (k0 := 23) (w := 23 + 1) (es1 := fun G => (([] : List va_E) ++ [.inl (G.2.1.2.1, 4096, .inr (.inl (fun _ => 0)))])) (ci := 1) (j := 0) (fs := fun G => [.null, .null]) (ty := (.array .long)) dX1_init_10 fdc_1_11 ffc_1_0 (fun _ => ⟨rfl, rfl⟩) (fun G => Nat.le_of_ble_eq_true rfl) (by omega) (fun G => Nat.le_of_ble_eq_true rfl) ?_
  refine C_aload_n dX1_init_13 rfl (by omega) ?_
  refine C_bipush (v := nI 29) dX1_init_14 (by decide) ?_
  refine C_newa (k0 := 23) (R := rmC1) (ns := 4096) (es := fun G => .inr (1, [.ref (adO G (23 + 1)), .null]) :: (([] : List va_E) ++ [.inl (G.2.1.2.1, 4096, .inr (.inl (fun _ => 0)))])) (n := 1) (N := 29) (t0 := 0) (cI := fun G => G.2.1.1) (a0 := (29, .inl (fun _ => 0))) dX1_init_16 rfl tc_i (fun G => rfl) ra_i (fun _ => rfl) (fun G => rfl) (by decide) (by decide) (by decide) (Nat.le_of_ble_eq_true rfl) (Nat.le_of_ble_eq_true rfl) ?_
  refine C_putF (k0 := 23) (w := 23 + 2) (es1 := fun G => ((([] : List va_E) ++ [.inl (G.2.1.2.1, 4096, .inr (.inl (fun _ => 0)))]) ++ [.inl (G.2.1.1, 29, .inl (fun _ => 0))])) (ci := 1) (j := 1) (fs := fun G => [.ref (adO G (23 + 1)), .null]) (ty := (.array .int)) dX1_init_18 fdc_1_17 ffc_1_1 (fun _ => ⟨rfl, rfl⟩) (fun G => Nat.le_of_ble_eq_true rfl) (by omega) (fun G => Nat.le_of_ble_eq_true rfl) ?_
  refine C_ret (es := fun G => (.inr (1, [.ref (adO G (23 + 1)), .ref (adO G (23 + 2))]) :: ((([] : List va_E) ++ [.inl (G.2.1.2.1, 4096, .inr (.inl (fun _ => 0)))]) ++ [.inl (G.2.1.1, 29, .inl (fun _ => 0))]))) dX1_init_21 rfl rfl (fun G j hj => ?_)
  rcases (show j = 0 ∨ j = 1 ∨ j = 2 by omega) with rfl | rfl | rfl <;> exact ⟨_, rfl, fun _ _ h => h⟩
theorem twc_17 : Cond.methodLink RX4 3 Lib.objectInit ∈ Tg := tg_tab (List.mem_of_getElem? (i := 131) (by decide +kernel)) (by decide +kernel)
theorem twc_18 : Cond.fieldLink RX4 9 "WallDown$Tape" "bytes" "[I" ∈ Tg := tg_tab (List.mem_of_getElem? (i := 132) (by decide +kernel)) (by decide +kernel)
theorem dX4_init_0 : decode cX4_init 0 = .ok (.aload_n 0, 1) := by decide +kernel
theorem dX4_init_1 : decode cX4_init 1 = .ok (.invokespecial 3, 3) := by decide +kernel
theorem dX4_init_4 : decode cX4_init 4 = .ok (.aload_n 0, 1) := by decide +kernel
theorem dX4_init_5 : decode cX4_init 5 = .ok (.bipush 120, 2) := by decide +kernel
theorem dX4_init_7 : decode cX4_init 7 = .ok (.newarray .int, 2) := by decide +kernel
theorem dX4_init_9 : decode cX4_init 9 = .ok (.putfield 9, 3) := by decide +kernel
theorem dX4_init_12 : decode cX4_init 12 = .ok (.return_, 1) := by decide +kernel
theorem fdc_4_9 : FdO RX4 9 4 0 := ⟨(RX4, TX4, 6), rfl, in_4, by decide, twc_18⟩
theorem ffc_4_0 : FfO RX4 4 0 (.array .int) := ⟨(RX4, TX4, 6), tyX4, rfl, tyX4_ok, nmX4, rfl, rfl, by decide +kernel⟩
def rmC4 : Room := { frames := 1, cells := 1, slots := 120, locals := 12 }
set_option maxRecDepth 20000 in
set_option maxHeartbeats 4000000 in
theorem c_Tape : Mc yX4_init cX4_init 1 rmC4 27 2 4 [.null, .int 0, .int 0, .int 0, .int 0, .int 0] := by
  refine Mc.of (k := 0) (ls := [.ref 27]) (by decide +kernel) rfl rfl (by decide) ?_
  show Cj cX4_init 1 RX4 rmC4 27 2 0 [.ref 27] [] 0 0 (fun G => .inr (4, [.null, .int 0, .int 0, .int 0, .int 0, .int 0]) :: ([] : List va_E))
  refine C_aload_n dX4_init_0 rfl (by omega) ?_
  refine C_obj dX4_init_1 twc_17 tc_oi tc_oc (by omega) (Nat.le_of_ble_eq_true rfl) (Nat.le_of_ble_eq_true rfl) ?_
  refine C_aload_n dX4_init_4 rfl (by omega) ?_
  refine C_bipush (v := nI 120) dX4_init_5 (by decide) ?_
  refine C_newa (k0 := 27) (R := rmC4) (ns := 0) (es := fun G => .inr (4, [.null, .int 0, .int 0, .int 0, .int 0, .int 0]) :: ([] : List va_E)) (n := 0) (N := 120) (t0 := 0) (cI := fun G => G.2.1.1) (a0 := (120, .inl (fun _ => 0))) dX4_init_7 rfl tc_i (fun G => rfl) ra_i (fun _ => rfl) (fun G => rfl) (by decide) (by decide) (by decide) (Nat.le_of_ble_eq_true rfl) (Nat.le_of_ble_eq_true rfl) ?_
  refine C_putF (k0 := 27) (w := 27 + 1) (es1 := fun G => (([] : List va_E) ++ [.inl (G.2.1.1, 120, .inl (fun _ => 0))])) (ci := 4) (j := 0) (fs := fun G => [.null, .int 0, .int 0, .int 0, .int 0, .int 0]) (ty := (.array .int)) dX4_init_9 fdc_4_9 ffc_4_0 (fun _ => ⟨rfl, rfl⟩) (fun G => Nat.le_of_ble_eq_true rfl) (by omega) (fun G => Nat.le_of_ble_eq_true rfl) ?_
  refine C_ret (es := fun G => (.inr (4, [.ref (adO G (27 + 1)), .int 0, .int 0, .int 0, .int 0, .int 0]) :: (([] : List va_E) ++ [.inl (G.2.1.1, 120, .inl (fun _ => 0))]))) dX4_init_12 rfl rfl (fun G j hj => ?_)
  rcases (show j = 0 ∨ j = 1 by omega) with rfl | rfl <;> exact ⟨_, rfl, fun _ _ h => h⟩
theorem twc_19 : Cond.methodLink RX5 3 Lib.objectInit ∈ Tg := tg_tab (List.mem_of_getElem? (i := 125) (by decide +kernel)) (by decide +kernel)
theorem twc_20 : Cond.classLink RX5 9 RX4 ∈ Tg := tg_tab (List.mem_of_getElem? (i := 126) (by decide +kernel)) (by decide +kernel)
theorem twc_21 : Cond.instantiable RX4 6 ∈ Tg := tg_tab (List.mem_of_getElem? (i := 127) (by decide +kernel)) (by decide +kernel)
theorem twc_22 : Cond.code yX4_init cX4_init 1 none ∈ Tg := tg_tab (List.mem_of_getElem? (i := 130) (by decide +kernel)) (by decide +kernel)
theorem twc_23 : Cond.instanceMethod yX4_init ∈ Tg := tg_tab (List.mem_of_getElem? (i := 129) (by decide +kernel)) (by decide +kernel)
theorem twc_24 : Cond.fieldLink RX5 12 "WallDown$Teller" "tape" "LWallDown$Tape;" ∈ Tg := tg_tab (List.mem_of_getElem? (i := 159) (by decide +kernel)) (by decide +kernel)
theorem twc_25 : Cond.classLink RX5 18 RX0 ∈ Tg := tg_tab (List.mem_of_getElem? (i := 155) (by decide +kernel)) (by decide +kernel)
theorem twc_26 : Cond.instantiable RX0 9 ∈ Tg := tg_tab (List.mem_of_getElem? (i := 25) (by decide +kernel)) (by decide +kernel)
theorem twc_27 : Cond.code yX0_init cX0_init 1 none ∈ Tg := tg_tab (List.mem_of_getElem? (i := 28) (by decide +kernel)) (by decide +kernel)
theorem twc_28 : Cond.instanceMethod yX0_init ∈ Tg := tg_tab (List.mem_of_getElem? (i := 27) (by decide +kernel)) (by decide +kernel)
theorem twc_29 : Cond.fieldLink RX5 21 "WallDown$Teller" "site" "LWallDown$House;" ∈ Tg := tg_tab (List.mem_of_getElem? (i := 161) (by decide +kernel)) (by decide +kernel)
theorem twc_30 : Cond.classLink RX5 25 RX3 ∈ Tg := tg_tab (List.mem_of_getElem? (i := 157) (by decide +kernel)) (by decide +kernel)
theorem twc_31 : Cond.instantiable RX3 6 ∈ Tg := tg_tab (List.mem_of_getElem? (i := 77) (by decide +kernel)) (by decide +kernel)
theorem twc_32 : Cond.code yX3_init cX3_init 1 none ∈ Tg := tg_tab (List.mem_of_getElem? (i := 80) (by decide +kernel)) (by decide +kernel)
theorem twc_33 : Cond.instanceMethod yX3_init ∈ Tg := tg_tab (List.mem_of_getElem? (i := 79) (by decide +kernel)) (by decide +kernel)
theorem twc_34 : Cond.fieldLink RX5 28 "WallDown$Teller" "survey" "LWallDown$Survey;" ∈ Tg := tg_tab (List.mem_of_getElem? (i := 163) (by decide +kernel)) (by decide +kernel)
theorem dX5_init_0 : decode cX5_init 0 = .ok (.aload_n 0, 1) := by decide +kernel
theorem dX5_init_1 : decode cX5_init 1 = .ok (.invokespecial 3, 3) := by decide +kernel
theorem dX5_init_4 : decode cX5_init 4 = .ok (.aload_n 0, 1) := by decide +kernel
theorem dX5_init_5 : decode cX5_init 5 = .ok (.new 9, 3) := by decide +kernel
theorem dX5_init_8 : decode cX5_init 8 = .ok (.dup, 1) := by decide +kernel
theorem dX5_init_9 : decode cX5_init 9 = .ok (.invokespecial 11, 3) := by decide +kernel
theorem dX5_init_12 : decode cX5_init 12 = .ok (.putfield 12, 3) := by decide +kernel
theorem dX5_init_15 : decode cX5_init 15 = .ok (.aload_n 0, 1) := by decide +kernel
theorem dX5_init_16 : decode cX5_init 16 = .ok (.new 18, 3) := by decide +kernel
theorem dX5_init_19 : decode cX5_init 19 = .ok (.dup, 1) := by decide +kernel
theorem dX5_init_20 : decode cX5_init 20 = .ok (.invokespecial 20, 3) := by decide +kernel
theorem dX5_init_23 : decode cX5_init 23 = .ok (.putfield 21, 3) := by decide +kernel
theorem dX5_init_26 : decode cX5_init 26 = .ok (.aload_n 0, 1) := by decide +kernel
theorem dX5_init_27 : decode cX5_init 27 = .ok (.new 25, 3) := by decide +kernel
theorem dX5_init_30 : decode cX5_init 30 = .ok (.dup, 1) := by decide +kernel
theorem dX5_init_31 : decode cX5_init 31 = .ok (.invokespecial 27, 3) := by decide +kernel
theorem dX5_init_34 : decode cX5_init 34 = .ok (.putfield 28, 3) := by decide +kernel
theorem dX5_init_37 : decode cX5_init 37 = .ok (.return_, 1) := by decide +kernel
theorem fdc_5_12 : FdO RX5 12 5 0 := ⟨(RX5, TX5, 3), rfl, in_5, by decide, twc_24⟩
theorem ffc_5_0 : FfO RX5 5 0 (.object "WallDown$Tape") := ⟨(RX5, TX5, 3), tyX5, rfl, tyX5_ok, nmX5, rfl, rfl, by decide +kernel⟩
theorem fdc_5_21 : FdO RX5 21 5 1 := ⟨(RX5, TX5, 3), rfl, in_5, by decide, twc_29⟩
theorem ffc_5_1 : FfO RX5 5 1 (.object "WallDown$House") := ⟨(RX5, TX5, 3), tyX5, rfl, tyX5_ok, nmX5, rfl, rfl, by decide +kernel⟩
theorem fdc_5_28 : FdO RX5 28 5 2 := ⟨(RX5, TX5, 3), rfl, in_5, by decide, twc_34⟩
theorem ffc_5_2 : FfO RX5 5 2 (.object "WallDown$Survey") := ⟨(RX5, TX5, 3), tyX5, rfl, tyX5_ok, nmX5, rfl, rfl, by decide +kernel⟩
def rmC5 : Room := { frames := 2, cells := 12, slots := 329, locals := 32 }
set_option maxRecDepth 20000 in
set_option maxHeartbeats 4000000 in
theorem c_Teller : Mc yX5_init cX5_init 1 rmC5 26 13 5 [.null, .null, .null] := by
  refine Mc.of (k := 0) (ls := [.ref 26]) (by decide +kernel) rfl rfl (by decide) ?_
  show Cj cX5_init 1 RX5 rmC5 26 13 0 [.ref 26] [] 0 0 (fun G => .inr (5, [.null, .null, .null]) :: ([] : List va_E))
  refine C_aload_n dX5_init_0 rfl (by omega) ?_
  refine C_obj dX5_init_1 twc_19 tc_oi tc_oc (by omega) (Nat.le_of_ble_eq_true rfl) (Nat.le_of_ble_eq_true rfl) ?_
  refine C_aload_n dX5_init_4 rfl (by omega) ?_
  refine C_new (k0 := 26) (R := rmC5) (ns := 0) (es := fun G => .inr (5, [.null, .null, .null]) :: ([] : List va_E)) (n := 0) (ci := 4) (Cn := (RX4, TX4, 6)) (fs := [.null, .int 0, .int 0, .int 0, .int 0, .int 0]) tyX4 dX5_init_5 rfl in_4 tyX4_ok twc_20 twc_21 tw_148 df_4 (fun G => rfl) (by decide) (Nat.le_of_ble_eq_true rfl) (Nat.le_of_ble_eq_true rfl) ?_
  refine C_dup dX5_init_8 rfl ?_
  refine C_callN (k0 := 26) (R := rmC5) (ns := 6) (es1 := fun G => .inr (5, [.null, .null, .null]) :: ([] : List va_E)) (n := 1) (R' := rmC4) (cnt' := 2) dX5_init_9 (by decide +kernel) tw_148 twc_22 ⟨by decide +kernel, by decide +kernel, by decide +kernel⟩ twc_23 rfl ⟨Nat.le_of_ble_eq_true rfl, Nat.le_of_ble_eq_true rfl, Nat.le_of_ble_eq_true rfl, Nat.le_of_ble_eq_true rfl⟩ (fun G => rfl) (Nat.le_of_ble_eq_true rfl) (by decide) (Nat.le_of_ble_eq_true rfl) c_Tape ?_
  refine C_putF (k0 := 26) (w := 26 + 1) (es1 := fun G => (([] : List va_E) ++ mkE G (26 + 1) 2)) (ci := 5) (j := 0) (fs := fun G => [.null, .null, .null]) (ty := (.object "WallDown$Tape")) dX5_init_12 fdc_5_12 ffc_5_0 (fun _ => ⟨rfl, rfl⟩) (fun G => Nat.le_of_ble_eq_true rfl) (by omega) (fun G => Nat.le_of_ble_eq_true rfl) ?_
  refine C_aload_n dX5_init_15 rfl (by omega) ?_
  refine C_new (k0 := 26) (R := rmC5) (ns := 126) (es := fun G => .inr (5, [.ref (adO G (26 + 1)), .null, .null]) :: (([] : List va_E) ++ mkE G (26 + 1) 2)) (n := 2) (ci := 0) (Cn := (RX0, TX0, 9)) (fs := [.null, .null, .null, .null, .null, .int 0, .int 0, .int 0, .int 0]) tyX0 dX5_init_16 rfl in_0 tyX0_ok twc_25 twc_26 tw_14 df_0 (fun G => rfl) (by decide) (Nat.le_of_ble_eq_true rfl) (Nat.le_of_ble_eq_true rfl) ?_
  refine C_dup dX5_init_19 rfl ?_
  refine C_callN (k0 := 26) (R := rmC5) (ns := 135) (es1 := fun G => .inr (5, [.ref (adO G (26 + 1)), .null, .null]) :: (([] : List va_E) ++ mkE G (26 + 1) 2)) (n := 3) (R' := rmC0) (cnt' := 6) dX5_init_20 (by decide +kernel) tw_14 twc_27 ⟨by decide +kernel, by decide +kernel, by decide +kernel⟩ twc_28 rfl ⟨Nat.le_of_ble_eq_true rfl, Nat.le_of_ble_eq_true rfl, Nat.le_of_ble_eq_true rfl, Nat.le_of_ble_eq_true rfl⟩ (fun G => rfl) (Nat.le_of_ble_eq_true rfl) (by decide) (Nat.le_of_ble_eq_true rfl) c_House29 ?_
  refine C_putF (k0 := 26) (w := 26 + 3) (es1 := fun G => ((([] : List va_E) ++ mkE G (26 + 1) 2) ++ mkE G (26 + 3) 6)) (ci := 5) (j := 1) (fs := fun G => [.ref (adO G (26 + 1)), .null, .null]) (ty := (.object "WallDown$House")) dX5_init_23 fdc_5_21 ffc_5_1 (fun _ => ⟨rfl, rfl⟩) (fun G => Nat.le_of_ble_eq_true rfl) (by omega) (fun G => Nat.le_of_ble_eq_true rfl) ?_
  refine C_aload_n dX5_init_26 rfl (by omega) ?_
  refine C_new (k0 := 26) (R := rmC5) (ns := 227) (es := fun G => .inr (5, [.ref (adO G (26 + 1)), .ref (adO G (26 + 3)), .null]) :: ((([] : List va_E) ++ mkE G (26 + 1) 2) ++ mkE G (26 + 3) 6)) (n := 8) (ci := 3) (Cn := (RX3, TX3, 6)) (fs := [.null, .null, .null, .int 0, .int 0, .int 0]) tyX3 dX5_init_27 rfl in_3 tyX3_ok twc_30 twc_31 tw_42 df_3 (fun G => rfl) (by decide) (Nat.le_of_ble_eq_true rfl) (Nat.le_of_ble_eq_true rfl) ?_
  refine C_dup dX5_init_30 rfl ?_
  refine C_callN (k0 := 26) (R := rmC5) (ns := 233) (es1 := fun G => .inr (5, [.ref (adO G (26 + 1)), .ref (adO G (26 + 3)), .null]) :: ((([] : List va_E) ++ mkE G (26 + 1) 2) ++ mkE G (26 + 3) 6)) (n := 9) (R' := rmC3) (cnt' := 4) dX5_init_31 (by decide +kernel) tw_42 twc_32 ⟨by decide +kernel, by decide +kernel, by decide +kernel⟩ twc_33 rfl ⟨Nat.le_of_ble_eq_true rfl, Nat.le_of_ble_eq_true rfl, Nat.le_of_ble_eq_true rfl, Nat.le_of_ble_eq_true rfl⟩ (fun G => rfl) (Nat.le_of_ble_eq_true rfl) (by decide) (Nat.le_of_ble_eq_true rfl) c_Survey35 ?_
  refine C_putF (k0 := 26) (w := 26 + 9) (es1 := fun G => (((([] : List va_E) ++ mkE G (26 + 1) 2) ++ mkE G (26 + 3) 6) ++ mkE G (26 + 9) 4)) (ci := 5) (j := 2) (fs := fun G => [.ref (adO G (26 + 1)), .ref (adO G (26 + 3)), .null]) (ty := (.object "WallDown$Survey")) dX5_init_34 fdc_5_28 ffc_5_2 (fun _ => ⟨rfl, rfl⟩) (fun G => Nat.le_of_ble_eq_true rfl) (by omega) (fun G => Nat.le_of_ble_eq_true rfl) ?_
  refine C_ret (es := fun G => (.inr (5, [.ref (adO G (26 + 1)), .ref (adO G (26 + 3)), .ref (adO G (26 + 9))]) :: (((([] : List va_E) ++ mkE G (26 + 1) 2) ++ mkE G (26 + 3) 6) ++ mkE G (26 + 9) 4))) dX5_init_37 rfl rfl (fun G j hj => ?_)
  rcases (show j = 0 ∨ j = 1 ∨ j = 2 ∨ j = 3 ∨ j = 4 ∨ j = 5 ∨ j = 6 ∨ j = 7 ∨ j = 8 ∨ j = 9 ∨ j = 10 ∨ j = 11 ∨ j = 12 by omega) with rfl | rfl | rfl | rfl | rfl | rfl | rfl | rfl | rfl | rfl | rfl | rfl | rfl <;> exact ⟨_, rfl, fun _ _ h => h⟩
