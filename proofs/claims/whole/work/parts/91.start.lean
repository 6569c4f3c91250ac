/-! THE START: the empty house on both sides; what the Statement gives of the start, as Kx and Kc -/
theorem sgz {a j : Nat} (h1 : kd a ≠ 0) (h2 : a ≠ 50) : gI sg0 a j = nI 0 := by
  unfold gI sg0
  show (if kd a = 0 ∧ j = 5 then (7 : Int32) else if kd a = 0 ∧ j = 6 then 10 else if a = 50 ∧ j = 92 then 7 else if a = 50 ∧ j = 93 then 10 else 0) = nI 0
  rw [if_neg (fun z => h1 z.1), if_neg (fun z => h1 z.1), if_neg (fun z => h2 z.1), if_neg (fun z => h2 z.1), nI_0]
theorem sg50 {j : Nat} (h1 : j ≠ 92) (h2 : j ≠ 93) : gI sg0 50 j = nI 0 := by
  unfold gI sg0
  show (if kd 50 = 0 ∧ j = 5 then (7 : Int32) else if kd 50 = 0 ∧ j = 6 then 10 else if 50 = 50 ∧ j = 92 then 7 else if 50 = 50 ∧ j = 93 then 10 else 0) = nI 0
  rw [if_neg (fun z => absurd z.1 (by decide)), if_neg (fun z => absurd z.1 (by decide)), if_neg (fun z => h1 z.2), if_neg (fun z => h2 z.2), nI_0]
theorem kd_sh {s : Nat} (h : s < 4) : kd (41 + 2 * s) ≠ 0 := by
  rcases (show s = 0 ∨ s = 1 ∨ s = 2 ∨ s = 3 by omega) with rfl | rfl | rfl | rfl <;> decide
theorem inv_sg0 : Inv sg0 := by
  refine ⟨(fun _ => 0, fun _ _ => 0, fun _ _ => 0, fun _ _ => 0, fun _ => 0, 7, 10, 0, 0), ⟨⟨fun w _ => ⟨Nat.zero_le _, Nat.zero_le _, fun i hi => absurd hi (Nat.not_lt_zero i)⟩, by decide, by decide, by decide, by decide⟩, by decide, ⟨fun w _ => ⟨sgz (a := 1 + 4) (by decide) (by decide), sgz (a := 1 + 5) (by decide) (by decide), fun i hi => absurd hi (Nat.not_lt_zero i)⟩, by decide, by decide, by decide, by decide⟩, ⟨fun w hw => ⟨sg50 (by omega) (by omega), sg50 (by omega) (by omega), fun i hi => absurd hi (Nat.not_lt_zero i)⟩, by decide, by decide, by decide, by decide⟩, ⟨0, by decide, sgz (by decide) (by decide), sgz (by decide) (by decide), fun z => absurd z (by decide)⟩, ⟨0, fun _ => 0, by decide, sgz (by decide) (by decide), sgz (by decide) (by decide), fun j hj => absurd hj (Nat.not_lt_zero j)⟩, ⟨fun _ => 0, fun _ => 0, fun s hs => ⟨Or.inl rfl, Nat.zero_le _, sgz (kd_sh hs) (by omega), sgz (by decide) (by decide), sgz (kd_sh hs) (by omega), sgz (by decide) (by decide), fun _ _ => rfl⟩⟩⟩, fun j _ => (sgz (by decide) (by decide)).trans (sgz (by decide) (by decide)).symm⟩
theorem tb_in {w : Cond} (h : w ∈ tables_1) : w ∈ lw_tbl := List.mem_append_right _ h
theorem tws_6 : Cond.instantiable RX6 9 ∈ Tg := tg_tab (List.mem_of_getElem? (i := 17) (by decide +kernel)) (by decide +kernel)
theorem tws_7 : Cond.instantiable RX7 23 ∈ Tg := tg_tab (List.mem_of_getElem? (i := 797) (by decide +kernel)) (by decide +kernel)
theorem st_kn {s : State} {A : Array Value} (hT : ∀ w ∈ Tg, w.before A s = true) : ∃ D : va_G, ∀ (c : Nat) (q : vw_C), clsL[c]? = some q → u_Kn s q.1 q.2.1 q.2.2 (D.1 c) (D.2 c) := by
  obtain ⟨c0, i0, h0⟩ := u_known hT in_0 (hT _ twc_26)
  obtain ⟨c1, i1, h1⟩ := u_known hT in_1 (hT _ twc_43)
  obtain ⟨c2, i2, h2⟩ := u_known hT in_2 (hT _ twc_56)
  obtain ⟨c3, i3, h3⟩ := u_known hT in_3 (hT _ twc_31)
  obtain ⟨c4, i4, h4⟩ := u_known hT in_4 (hT _ twc_21)
  obtain ⟨c5, i5, h5⟩ := u_known hT in_5 (hT _ twc_48)
  obtain ⟨c6, i6, h6⟩ := u_known hT in_6 (hT _ tws_6)
  obtain ⟨c7, i7, h7⟩ := u_known hT in_7 (hT _ tws_7)
  refine ⟨(fun c => [c0, c1, c2, c3, c4, c5, c6, c7].getD c c0, fun c => [i0, i1, i2, i3, i4, i5, i6, i7].getD c i0), fun c q hq => ?_⟩
  have hc : c < 8 := (List.getElem?_eq_some_iff.mp hq).1
  rcases (show c = 0 ∨ c = 1 ∨ c = 2 ∨ c = 3 ∨ c = 4 ∨ c = 5 ∨ c = 6 ∨ c = 7 by omega) with rfl | rfl | rfl | rfl | rfl | rfl | rfl | rfl
  · have e : q = (RX0, TX0, 9) := Option.some.inj (hq.symm.trans rfl)
    subst e; exact h0
  · have e : q = (RX1, TX1, 2) := Option.some.inj (hq.symm.trans rfl)
    subst e; exact h1
  · have e : q = (RX2, TX2, 3) := Option.some.inj (hq.symm.trans rfl)
    subst e; exact h2
  · have e : q = (RX3, TX3, 6) := Option.some.inj (hq.symm.trans rfl)
    subst e; exact h3
  · have e : q = (RX4, TX4, 6) := Option.some.inj (hq.symm.trans rfl)
    subst e; exact h4
  · have e : q = (RX5, TX5, 3) := Option.some.inj (hq.symm.trans rfl)
    subst e; exact h5
  · have e : q = (RX6, TX6, 9) := Option.some.inj (hq.symm.trans rfl)
    subst e; exact h6
  · have e : q = (RX7, TX7, 23) := Option.some.inj (hq.symm.trans rfl)
    subst e; exact h7
theorem st_arr {s : State} {A : Array Value} {ty : FieldType} (h : (Cond.arrayClass ty).before A s = true) : ∃ cA : ClassId, ArrOfT s cA ty ∧ s.vm.findClass ("[" ++ ty.toString) = some cA := by
  obtain ⟨c, k, comp, h1, h2, h3⟩ := Cond.arrayClass_spec h
  exact ⟨c, fun n z => ⟨fun k h => (by cases h), k, h2, comp, h3⟩, h1⟩
theorem st_arq {s : State} {A : Array Value} {C : String} (h : (Cond.arrayOver (.object C)).before A s = true) : ∃ cA : ClassId, ArrOfT s cA (.object C) ∧ va_RA s cA (.object C) := by
  obtain ⟨comp, c, k, h1, h2, h3, h4, h5⟩ := Cond.arrayOver_spec h
  exact ⟨c, fun n z => ⟨fun k h => (by cases h), k, h3, comp, h4⟩, k, comp, h3, h4, h1, h5⟩
def tmS (i : Nat) : Term := Term.string "WallDown$Teller" (stL.getD i (0, "", [])).1
abbrev flN : List Cond := flatC (Jvm.Cond.and given_1 narrow_1)
def bsW : List Nat := [25, 35, 47, 59, 71, 84, 97, 112, 127, 141, 157, 176, 196, 216]
theorem w_ex : ∀ i, i < 14 → flN[bsW.getD i 0 - stLen.getD i 0 - 4]? = some (Cond.exactly (tmS i) "java/lang/String") := by decide +kernel
theorem w_co : ∀ i, i < 14 → flN[bsW.getD i 0 - stLen.getD i 0 - 3]? = some (Cond.eq (.field (tmS i) "java/lang/String" "coder" "B") (.int 0)) := by decide +kernel
theorem w_ar : ∀ i, i < 14 → flN[bsW.getD i 0 - stLen.getD i 0 - 2]? = some (Cond.arrayOf (.field (tmS i) "java/lang/String" "value" "[B") .byte) := by decide +kernel
theorem w_le : ∀ i, i < 14 → flN[bsW.getD i 0 - stLen.getD i 0 - 1]? = some (Cond.eq (.length (.field (tmS i) "java/lang/String" "value" "[B")) (.int (Int32.ofNat (stLen.getD i 0)))) := by decide +kernel
theorem w_el : ∀ i, i < 14 → ∀ j, j < stLen.getD i 0 → flN[bsW.getD i 0 - stLen.getD i 0 + j]? = some (Cond.eq (.elem (.field (tmS i) "java/lang/String" "value" "[B") (.int (Int32.ofNat j))) (.int ((stByt.getD i []).getD j 0))) := by decide +kernel
theorem w_ne : ∀ j, j < 14 → ∀ i, i < j → flN[bsW.getD j 0 + i]? = some (Cond.not (Cond.eq (tmS i) (tmS j))) := by decide +kernel
theorem w_sm : ∀ i, i < 14 → stLen.getD i 0 < 2 ^ 31 := by decide +kernel
def srI : List Nat := [616, 617, 618, 619, 620, 621, 683, 684, 686, 691, 692, 694, 699, 704]
theorem w_sr : ∀ i, i < 14 → tables_1[srI.getD i 0]? = some (Cond.stringRef "WallDown$Teller" (stL.getD i (0, "", [])).1 (stL.getD i (0, "", [])).2.1) := by decide +kernel
theorem w_ab : ∀ j, j < 6 → Cond.eq (.elem (.static "WallDown" "ABOVE" "[I") (.int (Int32.ofNat j))) (.int (aboveL.getD j 0)) ∈ flN := by decide +kernel
theorem w_aa : Cond.arrayOf (.static "WallDown" "ABOVE" "[I") .int ∈ flN := by decide +kernel
theorem w_al : Cond.eq (.length (.static "WallDown" "ABOVE" "[I")) (.int (Int32.ofNat 6)) ∈ flN := by decide +kernel
theorem w_cs : Cond.eq (.static "java/lang/String" "COMPACT_STRINGS" "Z") (.int 1) ∈ flN := by decide +kernel
theorem w_si : Cond.isRef (.static "jdk/internal/util/Preconditions" "SIOOBE_FORMATTER" "Ljava/util/function/BiFunction;") ∈ flN := by decide +kernel
theorem w_t1 : Cond.laysStatic "WallDown" "ABOVE" "[I" ∈ lw_tbl := tb_in (List.mem_of_getElem? (i := 333) (by decide +kernel))
theorem w_t2 : Cond.laysStatic "java/lang/String" "COMPACT_STRINGS" "Z" ∈ lw_tbl := tb_in (List.mem_of_getElem? (i := 635) (by decide +kernel))
theorem w_t3 : Cond.laysStatic "jdk/internal/util/Preconditions" "SIOOBE_FORMATTER" "Ljava/util/function/BiFunction;" ∈ lw_tbl := tb_in (List.mem_of_getElem? (i := 651) (by decide +kernel))
theorem w_i1 : Cond.initialized "WallDown" ∈ lw_tbl := tb_in (List.mem_of_getElem? (i := 1) (by decide +kernel))
theorem w_i2 : Cond.initialized "java/lang/String" ∈ lw_tbl := tb_in (List.mem_of_getElem? (i := 12) (by decide +kernel))
theorem w_i3 : Cond.initialized "jdk/internal/util/Preconditions" ∈ lw_tbl := tb_in (List.mem_of_getElem? (i := 14) (by decide +kernel))
theorem w_ao : Cond.arrayOver (.object "WallDown$Sheet") ∈ lw_tbl := tb_in (List.mem_of_getElem? (i := 172) (by decide +kernel))
theorem w_nw : Cond.methodLinkNest "WallDown$Tape" 53 yX6_isWithin "WallDown" ∈ lw_tbl := tb_in (List.mem_of_getElem? (i := 595) (by decide +kernel))
theorem w_nl : ∀ q ∈ nlL, Cond.methodLinkNest q.1 q.2.1 q.2.2 "WallDown" ∈ lw_tbl :=
  List.forall_mem_cons.mpr ⟨tb_in (List.mem_of_getElem? (i := 26) (by decide +kernel)), List.forall_mem_cons.mpr ⟨tb_in (List.mem_of_getElem? (i := 78) (by decide +kernel)), List.forall_mem_cons.mpr ⟨tb_in (List.mem_of_getElem? (i := 107) (by decide +kernel)), List.forall_mem_cons.mpr ⟨tb_in (List.mem_of_getElem? (i := 122) (by decide +kernel)), List.forall_mem_cons.mpr ⟨tb_in (List.mem_of_getElem? (i := 174) (by decide +kernel)), List.forall_mem_cons.mpr ⟨tb_in (List.mem_of_getElem? (i := 128) (by decide +kernel)), List.forall_mem_cons.mpr ⟨tb_in (List.mem_of_getElem? (i := 156) (by decide +kernel)), List.forall_mem_cons.mpr ⟨tb_in (List.mem_of_getElem? (i := 158) (by decide +kernel)), fun _ h => absurd h List.not_mem_nil⟩⟩⟩⟩⟩⟩⟩⟩
theorem st_str {s : State} {A : Array Value} {B : Nat → Prop} (hs : ∀ w ∈ flN, w.before A s = true) (hA : ∀ a : Nat, a < s.heap.size → ¬ B a) : ∃ adK adV : Nat → Nat, vk_S 14 stLen stByt adK adV B s s.heap ∧ ∀ i : Nat, i < 14 → (tmS i).eval A s none [] s = some (.ref (adK i)) :=
  vk_Sof (tm := tmS) w_sm (fun i hi => hs _ (List.mem_of_getElem? (w_ex i hi))) (fun i hi => hs _ (List.mem_of_getElem? (w_co i hi))) (fun i hi => hs _ (List.mem_of_getElem? (w_ar i hi))) (fun i hi => hs _ (List.mem_of_getElem? (w_le i hi))) (fun i hi j hj => hs _ (List.mem_of_getElem? (w_el i hi j hj))) (fun i j hi hj hne => (Nat.lt_or_gt_of_ne hne).elim (fun z => Or.inl (hs _ (List.mem_of_getElem? (w_ne j hj i z)))) (fun z => Or.inr (hs _ (List.mem_of_getElem? (w_ne i hi j z))))) hA
theorem st_si {s : State} {A : Array Value} {B : Nat → Prop} (hs : ∀ w ∈ flN, w.before A s = true) (ht : ∀ w ∈ lw_tbl, w.before A s = true) (hA : ∀ a : Nat, a < s.heap.size → ¬ B a) : ∃ t : Nat, va_Z "jdk/internal/util/Preconditions" "SIOOBE_FORMATTER" "Ljava/util/function/BiFunction;" .null B s s.heap ∨ va_Z "jdk/internal/util/Preconditions" "SIOOBE_FORMATTER" "Ljava/util/function/BiFunction;" (.ref t) B s s.heap := by
  rcases va_Zqof (A := B) (ht _ w_t3) (ht _ w_i3) (hs _ w_si) hA with h | ⟨t, h⟩
  · exact ⟨0, Or.inl h⟩
  · exact ⟨t, Or.inr h⟩
/-- where all lies -/
def mkAd (h tA tS b : Nat) (adK adV : Nat → Nat) (k : Nat) : Nat := if k < 200 then h + k else if k = 200 then tA else if k = 201 then tS else if k = 202 then b else if k < 400 then adK (k - 300) else adV (k - 400)
theorem st_G {s : State} {b : Nat} (ht : ∀ w ∈ lw_tbl, w.before #[Value.ref b] s = true) (hg : (Jvm.Cond.and given_1 narrow_1).before #[Value.ref b] s = true) : ∃ G : Gx, adO G 202 = b ∧ (∀ k, k ≤ 65 → adO G k = s.heap.size + k) ∧ Kx G s ∧ Kc G s := by
  have hs : ∀ w ∈ flN, w.before #[Value.ref b] s = true := flat_of_before _ hg
  have hT : ∀ w ∈ Tg, w.before #[Value.ref b] s = true := fun w hw => ht w (List.mem_filter.mp hw).1
  have hA : ∀ a : Nat, a < s.heap.size → ¬ (fun q : Nat => s.heap.size ≤ q) a := fun a h => Nat.not_le.mpr h
  obtain ⟨D, hD⟩ := st_kn hT
  obtain ⟨cI, hI1, hI2⟩ := st_arr (ty := .int) (hT _ tc_i)
  obtain ⟨cL, hL1, hL2⟩ := st_arr (ty := .long) (hT _ tc_l)
  obtain ⟨cZ, hZ1, hZ2⟩ := st_arr (ty := .boolean) (hT _ tc_z)
  obtain ⟨cQ, hQ1, hQ2⟩ := st_arq (ht _ w_ao)
  obtain ⟨adK, adV, hS, hSe⟩ := st_str hs hA
  obtain ⟨tS, hSi⟩ := st_si hs ht hA
  obtain ⟨tA, hAe, hAt⟩ := va_Tof (tm := .static "WallDown" "ABOVE" "[I") (ty := .int) (N := 6) (f := fun j => .int (aboveL.getD j 0)) (by decide) (hs _ w_aa) (va_eqt (hs _ w_al)) (fun j hj => va_eqt (hs _ (w_ab j hj))) hA
  have hAz := va_Zof (ht _ w_t1) (ht _ w_i1) hAe hA
  have hCz := va_Zof (ht _ w_t2) (ht _ w_i2) (va_eqt (hs _ w_cs)) hA
  refine ⟨(D, (cI, cL, cZ, cQ), mkAd s.heap.size tA tS b adK adV), ?_⟩
  generalize hG : ((D, (cI, cL, cZ, cQ), mkAd s.heap.size tA tS b adK adV) : Gx) = G
  have aO : ∀ k, adO G k = mkAd s.heap.size tA tS b adK adV k := fun k => by rw [← hG]; rfl
  have aL : ∀ k, k < 200 → adO G k = s.heap.size + k := fun k hk => by rw [aO]; exact if_pos hk
  have a200 : adO G 200 = tA := aO 200
  have a201 : adO G 201 = tS := aO 201
  have a202 : adO G 202 = b := aO 202
  have a3 : ∀ i, i < 14 → adO G (300 + i) = adK i := fun i hi => by
    rw [aO]; unfold mkAd
    rw [if_neg (by omega), if_neg (by omega), if_neg (by omega), if_neg (by omega), if_pos (by omega), show 300 + i - 300 = i by omega]
  have a4 : ∀ i, i < 14 → adO G (400 + i) = adV i := fun i hi => by
    rw [aO]; unfold mkAd
    rw [if_neg (by omega), if_neg (by omega), if_neg (by omega), if_neg (by omega), if_neg (by omega), show 400 + i - 400 = i by omega]
  have hAB : ∀ q, Aw G q → s.heap.size ≤ q := fun q ⟨k, hk, e⟩ => by rw [e, aL k (by omega)]; omega
  have hK : va_K G.1 clsL (tysO G) s := by
    rw [← hG]
    refine ⟨hD, fun k q hk => ?_⟩
    have hc : k < 4 := (List.getElem?_eq_some_iff.mp hk).1
    rcases (show k = 0 ∨ k = 1 ∨ k = 2 ∨ k = 3 by omega) with rfl | rfl | rfl | rfl
    · have e : q = (cI, .int) := Option.some.inj (hk.symm.trans rfl)
      subst e; exact ⟨hI1, hI2⟩
    · have e : q = (cL, .long) := Option.some.inj (hk.symm.trans rfl)
      subst e; exact ⟨hL1, hL2⟩
    · have e : q = (cZ, .boolean) := Option.some.inj (hk.symm.trans rfl)
      subst e; exact ⟨hZ1, hZ2⟩
    · have e : q = (cQ, .object "WallDown$Sheet") := Option.some.inj (hk.symm.trans rfl)
      subst e; exact ⟨hQ1, hQ2⟩
  refine ⟨a202, fun k hk => aL k (by omega), ⟨hK, fun i j hi hj e => ?_, va_Nw.of rfl (ht _ w_nw), ?_, ?_, hCz.narrow hAB, ⟨fun i hi => ?_, fun i j hi hj e => ?_⟩, ?_, fun i hi => ?_⟩, hK, fun k hk => ?_, va_AO.of (ht _ w_ao), fun q hq => va_Nw.of rfl (ht _ (w_nl q hq))⟩
  · rw [aL i (by omega), aL j (by omega)] at e; omega
  · rw [a200]; exact hAz.narrow hAB
  · rw [a200]; exact hAt.narrow hAB
  · obtain ⟨q1, q2, q3, q4⟩ := hS.1 i hi
    show va_O "java/lang/String" (adO G (300 + i)) (Aw G) s s.heap ∧ va_OF "java/lang/String" "coder" "B" (.int 0) (adO G (300 + i)) (Aw G) s s.heap ∧ va_OF "java/lang/String" "value" "[B" (.ref (adO G (400 + i))) (adO G (300 + i)) (Aw G) s s.heap ∧ va_T .byte (adO G (400 + i)) (stLen.getD i 0) (fun j => .int ((stByt.getD i []).getD j 0)) (Aw G) s s.heap
    rw [a3 i hi, a4 i hi]
    exact ⟨q1.narrow hAB, q2.narrow hAB, q3.narrow hAB, q4.narrow hAB⟩
  · replace e : adO G (300 + i) = adO G (300 + j) := e
    rw [a3 i hi, a3 j hj] at e
    exact hS.2 i j hi hj e
  · rw [a201]
    exact hSi.elim (fun z => Or.inl (z.narrow hAB)) (fun z => Or.inr (z.narrow hAB))
  · rw [a3 i hi]
    exact vk_R.of (ht _ (tb_in (List.mem_of_getElem? (w_sr i hi)))) (hSe i hi)
  · rw [aL k (by omega), aL 0 (by omega)]; rfl
