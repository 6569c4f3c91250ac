/-! THE CONSTRUCTORS of WallDown and WallDownModel (printed by wip/whole/ctor2.py) -/
section CX
variable {cc : ByteArray} {nL : Nat} {own : String} {R : Room} {k0 cnt : Nat} {pc : Nat} {ls ls' st : List Value} {n ns : Nat} {x : Gx → va_E} {E : Gx → List va_E}
theorem X_newa {aty : ArrayType} {ty : FieldType} {t0 N : Nat} {cI : Gx → ClassId} {a0 : vp_A} (E2 : Gx → List va_E) (n2 ns2 w : Nat) (hd : decode cc pc = .ok (.newarray aty, 2)) (hty : newarray.typeOf aty = ty) (hw : Cond.arrayClass (newarray.typeOf aty) ∈ Tg) (ht : ∀ G, (tysO G)[t0]? = some (cI G, ty)) (hra : ∀ (U : State) (cA cB : ClassId), va_RA U cA ty → va_RA U cB ty → cA = cB) (ha : ∀ cA : ClassId, vp_cell cA a0 = arrV cA N (fun _ => defaultValue ty))
    (hn : ∀ G, (E G).length = n) (hb : k0 + n + 2 ≤ 65) (hN : N < 2 ^ 20) (hby : N * componentBytes ty ≤ 536870912) (hc : n + 1 ≤ R.cells) (hs : ns + N ≤ R.slots) (e1 : n + 1 = n2) (e2 : ns + N = ns2) (e3 : k0 + n + 1 = w) (e4 : ∀ G, E G ++ [.inl (cI G, a0)] = E2 G) (h : Cj cc nL own R k0 cnt (pc + 2) ls (.ref w :: st) n2 ns2 (fun G => x G :: E2 G)) : Cj cc nL own R k0 cnt pc ls (.int (nI N) :: st) n ns (fun G => x G :: E G) := by
  subst e1; subst e2; subst e3
  obtain rfl : (fun G => E G ++ [.inl (cI G, a0)]) = E2 := funext e4
  exact C_newa (es := fun G => x G :: E G) hd hty hw ht hra ha (fun G => by rw [List.length_cons, hn G]) hb hN hby hc hs h
theorem X_newq {idx N : Nat} (E2 : Gx → List va_E) (n2 ns2 w : Nat) (hd : decode cc pc = .ok (.anewarray idx, 3)) (w1 : Cond.classLink own idx "WallDown$Sheet" ∈ Tg) (hn : ∀ G, (E G).length = n) (hb : k0 + n + 2 ≤ 65) (hN : N < 2 ^ 20) (hc : n + 1 ≤ R.cells) (hs : ns + N ≤ R.slots) (e1 : n + 1 = n2) (e2 : ns + N = ns2) (e3 : k0 + n + 1 = w) (e4 : ∀ G, E G ++ [.inl (G.2.1.2.2.2, N, .inr (.inr (.inr (.inr (fun _ => none)))))] = E2 G) (h : Cj cc nL own R k0 cnt (pc + 3) ls (.ref w :: st) n2 ns2 (fun G => x G :: E2 G)) : Cj cc nL own R k0 cnt pc ls (.int (nI N) :: st) n ns (fun G => x G :: E G) := by
  subst e1; subst e2; subst e3
  obtain rfl : (fun G => E G ++ [.inl (G.2.1.2.2.2, N, .inr (.inr (.inr (.inr (fun _ => none)))))]) = E2 := funext e4
  exact C_newq (es := fun G => x G :: E G) hd w1 (fun G => by rw [List.length_cons, hn G]) hb hN hc hs h
theorem X_new {ci idx : Nat} {Cn : vw_C} {fs : List Value} (E2 : Gx → List va_E) (n2 ns2 w : Nat) (ty0 : Nat → FieldType) (hd : decode cc pc = .ok (.new idx, 3)) (hcl : clsL[ci]? = some Cn) (hin : ∀ w ∈ u_ws Cn.1 Cn.2.1 Cn.2.2, w ∈ Tg) (hty : ∀ k, k < Cn.2.2 → parseFieldDescriptor (Cn.2.1 k).2.2.1 = some (ty0 k)) (w1 : Cond.classLink own idx Cn.1 ∈ Tg) (w2 : Cond.instantiable Cn.1 Cn.2.2 ∈ Tg) (w3 : Cond.initialized Cn.1 ∈ Tg) (hfs : ∀ j, j < Cn.2.2 → defaultValue (ty0 j) = vp_V fs j)
    (hn : ∀ G, (E G).length = n) (hb : k0 + n + 2 ≤ 65) (hc : n + 1 ≤ R.cells) (hs : ns + Cn.2.2 ≤ R.slots) (e1 : n + 1 = n2) (e2 : ns + Cn.2.2 = ns2) (e3 : k0 + n + 1 = w) (e4 : ∀ G, E G ++ [.inr (ci, fs)] = E2 G) (h : Cj cc nL own R k0 cnt (pc + 3) ls (.ref w :: st) n2 ns2 (fun G => x G :: E2 G)) : Cj cc nL own R k0 cnt pc ls st n ns (fun G => x G :: E G) := by
  subst e1; subst e2; subst e3
  obtain rfl : (fun G => E G ++ [.inr (ci, fs)]) = E2 := funext e4
  exact C_new (es := fun G => x G :: E G) ty0 hd hcl hin hty w1 w2 w3 hfs (fun G => by rw [List.length_cons, hn G]) hb hc hs h
theorem X_callN {y : MethodName} {cc' : ByteArray} {nL' idx cnt' ci w : Nat} {R' : Room} {fs : List Value} (E0 E2 : Gx → List va_E) (n2 ns2 : Nat) (hd : decode cc pc = .ok (.invokespecial idx, 3)) (hq : (own, idx, y) ∈ nlL) (w2 : Cond.initialized y.cls ∈ Tg) (w3 : Cond.code y cc' nL' none ∈ Tg) (w4 : y.cls ≠ "java/lang/invoke/MethodHandle" ∧ y.cls ≠ "java/lang/invoke/VarHandle" ∧ (parseMethodDescriptor y.desc).map (fun d => d.parameters.length) = some 0) (wi : Cond.instanceMethod y ∈ Tg) (hin : y.name = "<init>")
    (hR : R'.frames + 1 ≤ R.frames ∧ 8 + (nL' + 11) + R'.locals ≤ R.locals ∧ n + R'.cells ≤ R.cells ∧ ns + R'.slots ≤ R.slots) (hn : ∀ G, (E0 G).length + 1 = n) (hb : k0 + n + cnt' ≤ 65) (hc1 : 1 ≤ cnt') (h8 : (st.map fun v => v.category).sum ≤ 8) (e3 : k0 + n = w) (hM : Mc y cc' nL' R' w cnt' ci fs) (e1 : n + R'.cells = n2) (e2 : ns + R'.slots = ns2) (e0 : ∀ G, E0 G ++ [.inr (ci, fs)] = E G) (e4 : ∀ G, E0 G ++ mkE G w cnt' = E2 G)
    (h : Cj cc nL own R k0 cnt (pc + 3) ls st n2 ns2 (fun G => x G :: E2 G)) : Cj cc nL own R k0 cnt pc ls (.ref w :: st) n ns (fun G => x G :: E G) := by
  subst e1; subst e2; subst e3
  obtain rfl : (fun G => E0 G ++ [.inr (ci, fs)]) = E := funext e0
  obtain rfl : (fun G => E0 G ++ mkE G (k0 + n) cnt') = E2 := funext e4
  exact C_callN (es1 := fun G => x G :: E0 G) hd hq w2 w3 w4 wi hin hR (fun G => by rw [List.length_cons]; exact hn G) hb hc1 h8 hM h
theorem X_iast {qi N w : Nat} {i v : Int32} {f : Gx → Nat → Int32} (E2 : Gx → List va_E) (hd : decode cc pc = .ok (.iastore, 1)) (ha : ∀ G, (E G)[qi]? = some (.inl (G.2.1.1, N, .inl (f G)))) (hi : vp_in i N) (hb : ∀ G, k0 + ((E G).length + 1) ≤ 65) (hq : k0 + (qi + 1) < 65) (e3 : k0 + (qi + 1) = w) (e4 : ∀ G, (E G).set qi (.inl (G.2.1.1, N, .inl (upd (f G) i.toNatClampNeg v))) = E2 G)
    (h : Cj cc nL own R k0 cnt (pc + 1) ls st n ns (fun G => x G :: E2 G)) : Cj cc nL own R k0 cnt pc ls (.int v :: .int i :: .ref w :: st) n ns (fun G => x G :: E G) := by
  subst e3
  obtain rfl : (fun G => (E G).set qi (.inl (G.2.1.1, N, .inl (upd (f G) i.toNatClampNeg v)))) = E2 := funext e4
  exact C_iast (es := fun G => x G :: E G) (qi := qi + 1) (f := f) hd (fun G => ha G) hi (fun G => by rw [List.length_cons]; exact hb G) hq h
theorem X_aast {qi wi a w : Nat} {i : Int32} {f : Gx → Nat → Option Nat} (E2 : Gx → List va_E) (hd : decode cc pc = .ok (.aastore, 1)) (ha : ∀ G, (E G)[qi]? = some (.inl (G.2.1.2.2.2, 4, .inr (.inr (.inr (.inr (f G))))))) (hv : ∀ G, ∃ vs, (E G)[wi]? = some (.inr (2, vs))) (hi : vp_in i 4) (hb : ∀ G, k0 + ((E G).length + 1) ≤ 65) (hq : k0 + (qi + 1) < 65) (hw : k0 + (wi + 1) < 65) (e3 : k0 + (qi + 1) = a) (e4 : k0 + (wi + 1) = w)
    (e5 : ∀ G, (E G).set qi (.inl (G.2.1.2.2.2, 4, .inr (.inr (.inr (.inr (va_up (f G) i.toNatClampNeg (some (adO G w)))))))) = E2 G) (h : Cj cc nL own R k0 cnt (pc + 1) ls st n ns (fun G => x G :: E2 G)) : Cj cc nL own R k0 cnt pc ls (.ref w :: .int i :: .ref a :: st) n ns (fun G => x G :: E G) := by
  subst e3; subst e4
  obtain rfl : (fun G => (E G).set qi (.inl (G.2.1.2.2.2, 4, .inr (.inr (.inr (.inr (va_up (f G) i.toNatClampNeg (some (adO G (k0 + (wi + 1))))))))))) = E2 := funext e5
  exact C_aast (es := fun G => x G :: E G) (qi := qi + 1) (wi := wi + 1) (f := f) hd (fun G => ha G) (fun G => hv G) hi (fun G => by rw [List.length_cons]; exact hb G) hq hw h
theorem X_putF {ci j idx w : Nat} {fs : Gx → List Value} {ty : FieldType} (fs2 : Gx → List Value) (hd : decode cc pc = .ok (.putfield idx, 3)) (hF : FdO own idx ci j) (hp : FfO own ci j ty) (hnar : ∀ a : Nat, narrow ty (.ref a) = .ref a ∧ fits ty (.ref a) = true) (hl : ∀ G, j < (fs G).length) (hw : w < 65) (hb : ∀ G, k0 + ((E G).length + 1) ≤ 65) (e4 : ∀ G, (fs G).set j (.ref (adO G w)) = fs2 G)
    (h : Cj cc nL own R k0 cnt (pc + 3) ls st n ns (fun G => .inr (ci, fs2 G) :: E G)) : Cj cc nL own R k0 cnt pc ls (.ref w :: .ref k0 :: st) n ns (fun G => .inr (ci, fs G) :: E G) := by
  obtain rfl : (fun G => (fs G).set j (.ref (adO G w))) = fs2 := funext e4
  exact C_putF hd hF hp hnar hl hw hb h
end CX
/-- an object by its fields, one by one -/
theorem va_obj {G : Gx} {k c : Nat} {fs : List Value} {Cn : vw_C} (hk : kd k = c) (hc : c < 8) (hq : clsL[c]? = some Cn) (h : ∀ j, j < Cn.2.2 → ∃ f, (fl c)[j]? = some f ∧ fs[j]? = some (fvO G sg0 k j f)) : ∀ (a : Nat) (H : Heap), va_at G.1 clsL (a, .inr (c, fs)) H → va_at G.1 clsL (a, ceO G sg0 k) H := by
  intro a H hv
  obtain ⟨r, h1, h2⟩ := hv
  have e : ceO G sg0 k = .inr (c, fsO G sg0 k) := by unfold ceO; rw [if_pos (by omega), hk]
  rw [e]
  have er : r = Cn := Option.some.inj (h1.symm.trans hq)
  subst er
  refine ⟨r, h1, h2.to (fun j hj => ?_)⟩
  obtain ⟨f, f1, f2⟩ := h j hj
  show fs.getD j .null = (fsO G sg0 k).getD j .null
  rw [List.getD_eq_getElem?_getD, List.getD_eq_getElem?_getD, f2, fsO_at hk f1]
theorem arrV_al {cA : ClassId} {N : Nat} {f g : Nat → Value} (h : ∀ j, j < N → f j = g j) : arrV cA N f = arrV cA N g := by
  unfold arrV
  rw [show (fun j : Fin N => f j.val) = (fun j : Fin N => g j.val) from funext (fun j => h j.val j.isLt)]
theorem fin_sheets {G : Gx} : ∀ (q : Nat) (H : Heap), va_at G.1 clsL (q, .inl (G.2.1.2.2.2, 4, .inr (.inr (.inr (.inr (va_up (va_up (va_up (va_up (fun _ => none) (nI 0).toNatClampNeg (some (adO G 41))) (nI 1).toNatClampNeg (some (adO G 43))) (nI 2).toNatClampNeg (some (adO G 45))) (nI 3).toNatClampNeg (some (adO G 47)))))))) H → va_at G.1 clsL (q, ceO G sg0 (0 + 39)) H := by
  intro q H h
  replace h : H[q]? = some (arrV G.2.1.2.2.2 4 (fun j => va_rf ((va_up (va_up (va_up (va_up (fun _ => none) (nI 0).toNatClampNeg (some (adO G 41))) (nI 1).toNatClampNeg (some (adO G 43))) (nI 2).toNatClampNeg (some (adO G 45))) (nI 3).toNatClampNeg (some (adO G 47))) j))) := h
  show H[q]? = some (arrV G.2.1.2.2.2 4 (fun j => va_rf (some (adO G (39 + 2 + 2 * j)))))
  rw [h]
  refine congrArg some (arrV_al ?_)
  intro j hj
  rcases (show j = 0 ∨ j = 1 ∨ j = 2 ∨ j = 3 by omega) with rfl | rfl | rfl | rfl <;> rfl
theorem fin_row {G : Gx} : ∀ (q : Nat) (H : Heap), va_at G.1 clsL (q, .inl (G.2.1.1, 96, .inl (upd (upd (fun _ => 0) (nI 92).toNatClampNeg (nI 7)) (nI 93).toNatClampNeg (nI 10)))) H → va_at G.1 clsL (q, ceO G sg0 (49 + 1)) H := by
  intro q H h
  have e : (upd (upd (fun _ => 0) (nI 92).toNatClampNeg (nI 7)) (nI 93).toNatClampNeg (nI 10)) = sg0.1 50 := by
    funext j
    rw [nI_clamp (by decide), nI_clamp (by decide)]
    show (if j = 93 then nI 10 else if j = 92 then nI 7 else 0) = (if kd 50 = 0 ∧ j = 5 then 7 else if kd 50 = 0 ∧ j = 6 then 10 else if 50 = 50 ∧ j = 92 then 7 else if 50 = 50 ∧ j = 93 then 10 else 0)
    rw [if_neg (c := kd 50 = 0 ∧ j = 5) (fun z => absurd z.1 (by decide)), if_neg (c := kd 50 = 0 ∧ j = 6) (fun z => absurd z.1 (by decide))]
    by_cases a : j = 92
    · rw [if_neg (by omega), if_pos a, if_pos ⟨rfl, a⟩]; rfl
    · rw [if_neg (c := 50 = 50 ∧ j = 92) (fun z => a z.2)]
      by_cases b : j = 93
      · rw [if_pos b, if_pos ⟨rfl, b⟩]; rfl
      · rw [if_neg b, if_neg a, if_neg (fun z => b z.2)]
  rw [e] at h
  exact h
theorem dX7_init_0 : decode cX7_init 0 = .ok (.aload_n 0, 1) := by decide +kernel
theorem dX7_init_1 : decode cX7_init 1 = .ok (.invokespecial 1, 3) := by decide +kernel
theorem dX7_init_4 : decode cX7_init 4 = .ok (.aload_n 0, 1) := by decide +kernel
theorem dX7_init_5 : decode cX7_init 5 = .ok (.bipush 96, 2) := by decide +kernel
theorem dX7_init_7 : decode cX7_init 7 = .ok (.newarray .int, 2) := by decide +kernel
theorem dX7_init_9 : decode cX7_init 9 = .ok (.putfield 7, 3) := by decide +kernel
theorem dX7_init_12 : decode cX7_init 12 = .ok (.aload_n 0, 1) := by decide +kernel
theorem dX7_init_13 : decode cX7_init 13 = .ok (.bipush 7, 2) := by decide +kernel
theorem dX7_init_15 : decode cX7_init 15 = .ok (.newarray .int, 2) := by decide +kernel
theorem dX7_init_17 : decode cX7_init 17 = .ok (.putfield 13, 3) := by decide +kernel
theorem dX7_init_20 : decode cX7_init 20 = .ok (.aload_n 0, 1) := by decide +kernel
theorem dX7_init_21 : decode cX7_init 21 = .ok (.bipush 32, 2) := by decide +kernel
theorem dX7_init_23 : decode cX7_init 23 = .ok (.newarray .int, 2) := by decide +kernel
theorem dX7_init_25 : decode cX7_init 25 = .ok (.putfield 16, 3) := by decide +kernel
theorem dX7_init_28 : decode cX7_init 28 = .ok (.aload_n 0, 1) := by decide +kernel
theorem dX7_init_29 : decode cX7_init 29 = .ok (.bipush 32, 2) := by decide +kernel
theorem dX7_init_31 : decode cX7_init 31 = .ok (.newarray .int, 2) := by decide +kernel
theorem dX7_init_33 : decode cX7_init 33 = .ok (.putfield 19, 3) := by decide +kernel
theorem dX7_init_36 : decode cX7_init 36 = .ok (.aload_n 0, 1) := by decide +kernel
theorem dX7_init_37 : decode cX7_init 37 = .ok (.sipush 4096, 3) := by decide +kernel
theorem dX7_init_40 : decode cX7_init 40 = .ok (.newarray .long, 2) := by decide +kernel
theorem dX7_init_42 : decode cX7_init 42 = .ok (.putfield 22, 3) := by decide +kernel
theorem dX7_init_45 : decode cX7_init 45 = .ok (.aload_n 0, 1) := by decide +kernel
theorem dX7_init_46 : decode cX7_init 46 = .ok (.sipush 4096, 3) := by decide +kernel
theorem dX7_init_49 : decode cX7_init 49 = .ok (.newarray .int, 2) := by decide +kernel
theorem dX7_init_51 : decode cX7_init 51 = .ok (.putfield 26, 3) := by decide +kernel
theorem dX7_init_54 : decode cX7_init 54 = .ok (.aload_n 0, 1) := by decide +kernel
theorem dX7_init_55 : decode cX7_init 55 = .ok (.sipush 4096, 3) := by decide +kernel
theorem dX7_init_58 : decode cX7_init 58 = .ok (.newarray .boolean, 2) := by decide +kernel
theorem dX7_init_60 : decode cX7_init 60 = .ok (.putfield 29, 3) := by decide +kernel
theorem dX7_init_63 : decode cX7_init 63 = .ok (.aload_n 0, 1) := by decide +kernel
theorem dX7_init_64 : decode cX7_init 64 = .ok (.sipush 4096, 3) := by decide +kernel
theorem dX7_init_67 : decode cX7_init 67 = .ok (.newarray .int, 2) := by decide +kernel
theorem dX7_init_69 : decode cX7_init 69 = .ok (.putfield 33, 3) := by decide +kernel
theorem dX7_init_72 : decode cX7_init 72 = .ok (.aload_n 0, 1) := by decide +kernel
theorem dX7_init_73 : decode cX7_init 73 = .ok (.bipush 120, 2) := by decide +kernel
theorem dX7_init_75 : decode cX7_init 75 = .ok (.newarray .int, 2) := by decide +kernel
theorem dX7_init_77 : decode cX7_init 77 = .ok (.putfield 36, 3) := by decide +kernel
theorem dX7_init_80 : decode cX7_init 80 = .ok (.aload_n 0, 1) := by decide +kernel
theorem dX7_init_81 : decode cX7_init 81 = .ok (.iconst 4, 1) := by decide +kernel
theorem dX7_init_82 : decode cX7_init 82 = .ok (.newarray .int, 2) := by decide +kernel
theorem dX7_init_84 : decode cX7_init 84 = .ok (.putfield 39, 3) := by decide +kernel
theorem dX7_init_87 : decode cX7_init 87 = .ok (.aload_n 0, 1) := by decide +kernel
theorem dX7_init_88 : decode cX7_init 88 = .ok (.iconst 4, 1) := by decide +kernel
theorem dX7_init_89 : decode cX7_init 89 = .ok (.newarray .int, 2) := by decide +kernel
theorem dX7_init_91 : decode cX7_init 91 = .ok (.putfield 42, 3) := by decide +kernel
theorem dX7_init_94 : decode cX7_init 94 = .ok (.aload_n 0, 1) := by decide +kernel
theorem dX7_init_95 : decode cX7_init 95 = .ok (.sipush 160, 3) := by decide +kernel
theorem dX7_init_98 : decode cX7_init 98 = .ok (.newarray .long, 2) := by decide +kernel
theorem dX7_init_100 : decode cX7_init 100 = .ok (.putfield 45, 3) := by decide +kernel
theorem dX7_init_103 : decode cX7_init 103 = .ok (.aload_n 0, 1) := by decide +kernel
theorem dX7_init_104 : decode cX7_init 104 = .ok (.bipush 40, 2) := by decide +kernel
theorem dX7_init_106 : decode cX7_init 106 = .ok (.newarray .long, 2) := by decide +kernel
theorem dX7_init_108 : decode cX7_init 108 = .ok (.putfield 48, 3) := by decide +kernel
theorem dX7_init_111 : decode cX7_init 111 = .ok (.aload_n 0, 1) := by decide +kernel
theorem dX7_init_112 : decode cX7_init 112 = .ok (.bipush 96, 2) := by decide +kernel
theorem dX7_init_114 : decode cX7_init 114 = .ok (.newarray .int, 2) := by decide +kernel
theorem dX7_init_116 : decode cX7_init 116 = .ok (.putfield 51, 3) := by decide +kernel
theorem dX7_init_119 : decode cX7_init 119 = .ok (.aload_n 0, 1) := by decide +kernel
theorem dX7_init_120 : decode cX7_init 120 = .ok (.bipush 96, 2) := by decide +kernel
theorem dX7_init_122 : decode cX7_init 122 = .ok (.newarray .int, 2) := by decide +kernel
theorem dX7_init_124 : decode cX7_init 124 = .ok (.putfield 54, 3) := by decide +kernel
theorem dX7_init_127 : decode cX7_init 127 = .ok (.aload_n 0, 1) := by decide +kernel
theorem dX7_init_128 : decode cX7_init 128 = .ok (.getfield 7, 3) := by decide +kernel
theorem dX7_init_131 : decode cX7_init 131 = .ok (.bipush 92, 2) := by decide +kernel
theorem dX7_init_133 : decode cX7_init 133 = .ok (.bipush 7, 2) := by decide +kernel
theorem dX7_init_135 : decode cX7_init 135 = .ok (.iastore, 1) := by decide +kernel
theorem dX7_init_136 : decode cX7_init 136 = .ok (.aload_n 0, 1) := by decide +kernel
theorem dX7_init_137 : decode cX7_init 137 = .ok (.getfield 7, 3) := by decide +kernel
theorem dX7_init_140 : decode cX7_init 140 = .ok (.bipush 93, 2) := by decide +kernel
theorem dX7_init_142 : decode cX7_init 142 = .ok (.bipush 10, 2) := by decide +kernel
theorem dX7_init_144 : decode cX7_init 144 = .ok (.iastore, 1) := by decide +kernel
theorem dX7_init_145 : decode cX7_init 145 = .ok (.return_, 1) := by decide +kernel
theorem twc_59 : Cond.methodLink RX7 1 Lib.objectInit ∈ Tg := tg_tab (List.mem_of_getElem? (i := 801) (by decide +kernel)) (by decide +kernel)
theorem twc_60 : Cond.fieldLink RX7 7 "WallDownModel" "row" "[I" ∈ Tg := tg_tab (List.mem_of_getElem? (i := 802) (by decide +kernel)) (by decide +kernel)
theorem twc_61 : Cond.fieldLink RX7 13 "WallDownModel" "found" "[I" ∈ Tg := tg_tab (List.mem_of_getElem? (i := 803) (by decide +kernel)) (by decide +kernel)
theorem twc_62 : Cond.fieldLink RX7 16 "WallDownModel" "top" "[I" ∈ Tg := tg_tab (List.mem_of_getElem? (i := 804) (by decide +kernel)) (by decide +kernel)
theorem twc_63 : Cond.fieldLink RX7 19 "WallDownModel" "paid" "[I" ∈ Tg := tg_tab (List.mem_of_getElem? (i := 805) (by decide +kernel)) (by decide +kernel)
theorem twc_64 : Cond.fieldLink RX7 22 "WallDownModel" "rows" "[J" ∈ Tg := tg_tab (List.mem_of_getElem? (i := 806) (by decide +kernel)) (by decide +kernel)
theorem twc_65 : Cond.fieldLink RX7 26 "WallDownModel" "goes" "[I" ∈ Tg := tg_tab (List.mem_of_getElem? (i := 807) (by decide +kernel)) (by decide +kernel)
theorem twc_66 : Cond.fieldLink RX7 29 "WallDownModel" "leads" "[Z" ∈ Tg := tg_tab (List.mem_of_getElem? (i := 808) (by decide +kernel)) (by decide +kernel)
theorem twc_67 : Cond.fieldLink RX7 33 "WallDownModel" "need" "[I" ∈ Tg := tg_tab (List.mem_of_getElem? (i := 809) (by decide +kernel)) (by decide +kernel)
theorem twc_68 : Cond.fieldLink RX7 36 "WallDownModel" "tape" "[I" ∈ Tg := tg_tab (List.mem_of_getElem? (i := 810) (by decide +kernel)) (by decide +kernel)
theorem twc_69 : Cond.fieldLink RX7 39 "WallDownModel" "bitsOf" "[I" ∈ Tg := tg_tab (List.mem_of_getElem? (i := 818) (by decide +kernel)) (by decide +kernel)
theorem twc_70 : Cond.fieldLink RX7 42 "WallDownModel" "sizeOf" "[I" ∈ Tg := tg_tab (List.mem_of_getElem? (i := 819) (by decide +kernel)) (by decide +kernel)
theorem twc_71 : Cond.fieldLink RX7 45 "WallDownModel" "sheets" "[J" ∈ Tg := tg_tab (List.mem_of_getElem? (i := 820) (by decide +kernel)) (by decide +kernel)
theorem twc_72 : Cond.fieldLink RX7 48 "WallDownModel" "lent" "[J" ∈ Tg := tg_tab (List.mem_of_getElem? (i := 821) (by decide +kernel)) (by decide +kernel)
theorem twc_73 : Cond.fieldLink RX7 51 "WallDownModel" "image" "[I" ∈ Tg := tg_tab (List.mem_of_getElem? (i := 822) (by decide +kernel)) (by decide +kernel)
theorem twc_74 : Cond.fieldLink RX7 54 "WallDownModel" "before" "[I" ∈ Tg := tg_tab (List.mem_of_getElem? (i := 823) (by decide +kernel)) (by decide +kernel)
theorem fdc_7_7 : FdO RX7 7 7 0 := ⟨(RX7, TX7, 23), rfl, in_7, by decide, twc_60⟩
theorem ffc_7_0 : FfO RX7 7 0 (.array .int) := ⟨(RX7, TX7, 23), tyX7, rfl, tyX7_ok, nmX7, rfl, rfl, by decide +kernel⟩
theorem fdc_7_13 : FdO RX7 13 7 1 := ⟨(RX7, TX7, 23), rfl, in_7, by decide, twc_61⟩
theorem ffc_7_1 : FfO RX7 7 1 (.array .int) := ⟨(RX7, TX7, 23), tyX7, rfl, tyX7_ok, nmX7, rfl, rfl, by decide +kernel⟩
theorem fdc_7_16 : FdO RX7 16 7 2 := ⟨(RX7, TX7, 23), rfl, in_7, by decide, twc_62⟩
theorem ffc_7_2 : FfO RX7 7 2 (.array .int) := ⟨(RX7, TX7, 23), tyX7, rfl, tyX7_ok, nmX7, rfl, rfl, by decide +kernel⟩
theorem fdc_7_19 : FdO RX7 19 7 3 := ⟨(RX7, TX7, 23), rfl, in_7, by decide, twc_63⟩
theorem ffc_7_3 : FfO RX7 7 3 (.array .int) := ⟨(RX7, TX7, 23), tyX7, rfl, tyX7_ok, nmX7, rfl, rfl, by decide +kernel⟩
theorem fdc_7_22 : FdO RX7 22 7 4 := ⟨(RX7, TX7, 23), rfl, in_7, by decide, twc_64⟩
theorem ffc_7_4 : FfO RX7 7 4 (.array .long) := ⟨(RX7, TX7, 23), tyX7, rfl, tyX7_ok, nmX7, rfl, rfl, by decide +kernel⟩
theorem fdc_7_26 : FdO RX7 26 7 5 := ⟨(RX7, TX7, 23), rfl, in_7, by decide, twc_65⟩
theorem ffc_7_5 : FfO RX7 7 5 (.array .int) := ⟨(RX7, TX7, 23), tyX7, rfl, tyX7_ok, nmX7, rfl, rfl, by decide +kernel⟩
theorem fdc_7_29 : FdO RX7 29 7 6 := ⟨(RX7, TX7, 23), rfl, in_7, by decide, twc_66⟩
theorem ffc_7_6 : FfO RX7 7 6 (.array .boolean) := ⟨(RX7, TX7, 23), tyX7, rfl, tyX7_ok, nmX7, rfl, rfl, by decide +kernel⟩
theorem fdc_7_33 : FdO RX7 33 7 7 := ⟨(RX7, TX7, 23), rfl, in_7, by decide, twc_67⟩
theorem ffc_7_7 : FfO RX7 7 7 (.array .int) := ⟨(RX7, TX7, 23), tyX7, rfl, tyX7_ok, nmX7, rfl, rfl, by decide +kernel⟩
theorem fdc_7_36 : FdO RX7 36 7 8 := ⟨(RX7, TX7, 23), rfl, in_7, by decide, twc_68⟩
theorem ffc_7_8 : FfO RX7 7 8 (.array .int) := ⟨(RX7, TX7, 23), tyX7, rfl, tyX7_ok, nmX7, rfl, rfl, by decide +kernel⟩
theorem fdc_7_39 : FdO RX7 39 7 16 := ⟨(RX7, TX7, 23), rfl, in_7, by decide, twc_69⟩
theorem ffc_7_16 : FfO RX7 7 16 (.array .int) := ⟨(RX7, TX7, 23), tyX7, rfl, tyX7_ok, nmX7, rfl, rfl, by decide +kernel⟩
theorem fdc_7_42 : FdO RX7 42 7 17 := ⟨(RX7, TX7, 23), rfl, in_7, by decide, twc_70⟩
theorem ffc_7_17 : FfO RX7 7 17 (.array .int) := ⟨(RX7, TX7, 23), tyX7, rfl, tyX7_ok, nmX7, rfl, rfl, by decide +kernel⟩
theorem fdc_7_45 : FdO RX7 45 7 18 := ⟨(RX7, TX7, 23), rfl, in_7, by decide, twc_71⟩
theorem ffc_7_18 : FfO RX7 7 18 (.array .long) := ⟨(RX7, TX7, 23), tyX7, rfl, tyX7_ok, nmX7, rfl, rfl, by decide +kernel⟩
theorem fdc_7_48 : FdO RX7 48 7 19 := ⟨(RX7, TX7, 23), rfl, in_7, by decide, twc_72⟩
theorem ffc_7_19 : FfO RX7 7 19 (.array .long) := ⟨(RX7, TX7, 23), tyX7, rfl, tyX7_ok, nmX7, rfl, rfl, by decide +kernel⟩
theorem fdc_7_51 : FdO RX7 51 7 20 := ⟨(RX7, TX7, 23), rfl, in_7, by decide, twc_73⟩
theorem ffc_7_20 : FfO RX7 7 20 (.array .int) := ⟨(RX7, TX7, 23), tyX7, rfl, tyX7_ok, nmX7, rfl, rfl, by decide +kernel⟩
theorem fdc_7_54 : FdO RX7 54 7 21 := ⟨(RX7, TX7, 23), rfl, in_7, by decide, twc_74⟩
theorem ffc_7_21 : FfO RX7 7 21 (.array .int) := ⟨(RX7, TX7, 23), tyX7, rfl, tyX7_ok, nmX7, rfl, rfl, by decide +kernel⟩
def rmC7 : Room := { frames := 1, cells := 15, slots := 17071, locals := 12 }
theorem fo_7 {G : Gx} : ∀ (a : Nat) (H : Heap), va_at G.1 clsL (a, .inr (7, [.ref (adO G 50), .ref (adO G 51), .ref (adO G 52), .ref (adO G 53), .ref (adO G 54), .ref (adO G 55), .ref (adO G 56), .ref (adO G 57), .ref (adO G 58), .int 0, .int 0, .int 0, .int 0, .long 0, .int 0, .int 0, .ref (adO G 59), .ref (adO G 60), .ref (adO G 61), .ref (adO G 62), .ref (adO G 63), .ref (adO G 64), .int 0])) H → va_at G.1 clsL (a, ceO G sg0 (49 + 0)) H := by
  refine va_obj (k := 49 + 0) (Cn := (RX7, TX7, 23)) (by decide) (by decide) rfl (fun j hj => ?_)
  replace hj : j < 23 := hj
  rcases (show j = 0 ∨ j = 1 ∨ j = 2 ∨ j = 3 ∨ j = 4 ∨ j = 5 ∨ j = 6 ∨ j = 7 ∨ j = 8 ∨ j = 9 ∨ j = 10 ∨ j = 11 ∨ j = 12 ∨ j = 13 ∨ j = 14 ∨ j = 15 ∨ j = 16 ∨ j = 17 ∨ j = 18 ∨ j = 19 ∨ j = 20 ∨ j = 21 ∨ j = 22 by omega) with rfl | rfl | rfl | rfl | rfl | rfl | rfl | rfl | rfl | rfl | rfl | rfl | rfl | rfl | rfl | rfl | rfl | rfl | rfl | rfl | rfl | rfl | rfl <;> exact ⟨_, rfl, rfl⟩
set_option maxRecDepth 20000 in
set_option maxHeartbeats 4000000 in
theorem c_Model : Mc yX7_init cX7_init 1 rmC7 49 16 7 [.null, .null, .null, .null, .null, .null, .null, .null, .null, .int 0, .int 0, .int 0, .int 0, .long 0, .int 0, .int 0, .null, .null, .null, .null, .null, .null, .int 0] := by
  refine Mc.of (k := 0) (ls := [.ref 49]) (by decide +kernel) rfl rfl (by decide) ?_
  show Cj cX7_init 1 RX7 rmC7 49 16 0 [.ref 49] [] 0 0 (fun G => (fun _ : Gx => (.inr (7, (fun _ : Gx => [.null, .null, .null, .null, .null, .null, .null, .null, .null, .int 0, .int 0, .int 0, .int 0, .long 0, .int 0, .int 0, .null, .null, .null, .null, .null, .null, .int 0]) G) : va_E)) G :: ([] : List va_E))
  refine C_aload_n dX7_init_0 rfl (by decide) ?_
  refine C_obj dX7_init_1 twc_59 tc_oi tc_oc (by decide) (Nat.le_of_ble_eq_true rfl) (Nat.le_of_ble_eq_true rfl) ?_
  refine C_aload_n dX7_init_4 rfl (by decide) ?_
  refine C_bipush (v := nI 96) dX7_init_5 (by decide) ?_
  refine X_newa (R := rmC7) (k0 := 49) (n := 0) (ns := 0) (N := 96) (t0 := 0) (cI := fun G => G.2.1.1) (a0 := (96, .inl (fun _ => 0))) (fun G => [.inl (G.2.1.1, (96, .inl (fun _ => 0)))]) 1 96 50 dX7_init_7 rfl tc_i (fun G => rfl) ra_i (fun _ => rfl) (fun G => rfl) (Nat.le_of_ble_eq_true rfl) (by decide) (by decide) (Nat.le_of_ble_eq_true rfl) (Nat.le_of_ble_eq_true rfl) rfl rfl rfl (fun G => rfl) ?_
  refine X_putF (k0 := 49) (w := 50) (ci := 7) (j := 0) (ty := (.array .int)) (fs := (fun G => [.null, .null, .null, .null, .null, .null, .null, .null, .null, .int 0, .int 0, .int 0, .int 0, .long 0, .int 0, .int 0, .null, .null, .null, .null, .null, .null, .int 0])) (fun G => [.ref (adO G 50), .null, .null, .null, .null, .null, .null, .null, .null, .int 0, .int 0, .int 0, .int 0, .long 0, .int 0, .int 0, .null, .null, .null, .null, .null, .null, .int 0]) dX7_init_9 fdc_7_7 ffc_7_0 (fun _ => ⟨rfl, rfl⟩) (fun G => Nat.le_of_ble_eq_true rfl) (by decide) (fun G => Nat.le_of_ble_eq_true rfl) (fun G => rfl) ?_
  refine C_aload_n dX7_init_12 rfl (by decide) ?_
  refine C_bipush (v := nI 7) dX7_init_13 (by decide) ?_
  refine X_newa (R := rmC7) (k0 := 49) (n := 1) (ns := 96) (N := 7) (t0 := 0) (cI := fun G => G.2.1.1) (a0 := (7, .inl (fun _ => 0))) (fun G => [.inl (G.2.1.1, (96, .inl (fun _ => 0))), .inl (G.2.1.1, (7, .inl (fun _ => 0)))]) 2 103 51 dX7_init_15 rfl tc_i (fun G => rfl) ra_i (fun _ => rfl) (fun G => rfl) (Nat.le_of_ble_eq_true rfl) (by decide) (by decide) (Nat.le_of_ble_eq_true rfl) (Nat.le_of_ble_eq_true rfl) rfl rfl rfl (fun G => rfl) ?_
  refine X_putF (k0 := 49) (w := 51) (ci := 7) (j := 1) (ty := (.array .int)) (fs := (fun G => [.ref (adO G 50), .null, .null, .null, .null, .null, .null, .null, .null, .int 0, .int 0, .int 0, .int 0, .long 0, .int 0, .int 0, .null, .null, .null, .null, .null, .null, .int 0])) (fun G => [.ref (adO G 50), .ref (adO G 51), .null, .null, .null, .null, .null, .null, .null, .int 0, .int 0, .int 0, .int 0, .long 0, .int 0, .int 0, .null, .null, .null, .null, .null, .null, .int 0]) dX7_init_17 fdc_7_13 ffc_7_1 (fun _ => ⟨rfl, rfl⟩) (fun G => Nat.le_of_ble_eq_true rfl) (by decide) (fun G => Nat.le_of_ble_eq_true rfl) (fun G => rfl) ?_
  refine C_aload_n dX7_init_20 rfl (by decide) ?_
  refine C_bipush (v := nI 32) dX7_init_21 (by decide) ?_
  refine X_newa (R := rmC7) (k0 := 49) (n := 2) (ns := 103) (N := 32) (t0 := 0) (cI := fun G => G.2.1.1) (a0 := (32, .inl (fun _ => 0))) (fun G => [.inl (G.2.1.1, (96, .inl (fun _ => 0))), .inl (G.2.1.1, (7, .inl (fun _ => 0))), .inl (G.2.1.1, (32, .inl (fun _ => 0)))]) 3 135 52 dX7_init_23 rfl tc_i (fun G => rfl) ra_i (fun _ => rfl) (fun G => rfl) (Nat.le_of_ble_eq_true rfl) (by decide) (by decide) (Nat.le_of_ble_eq_true rfl) (Nat.le_of_ble_eq_true rfl) rfl rfl rfl (fun G => rfl) ?_
  refine X_putF (k0 := 49) (w := 52) (ci := 7) (j := 2) (ty := (.array .int)) (fs := (fun G => [.ref (adO G 50), .ref (adO G 51), .null, .null, .null, .null, .null, .null, .null, .int 0, .int 0, .int 0, .int 0, .long 0, .int 0, .int 0, .null, .null, .null, .null, .null, .null, .int 0])) (fun G => [.ref (adO G 50), .ref (adO G 51), .ref (adO G 52), .null, .null, .null, .null, .null, .null, .int 0, .int 0, .int 0, .int 0, .long 0, .int 0, .int 0, .null, .null, .null, .null, .null, .null, .int 0]) dX7_init_25 fdc_7_16 ffc_7_2 (fun _ => ⟨rfl, rfl⟩) (fun G => Nat.le_of_ble_eq_true rfl) (by decide) (fun G => Nat.le_of_ble_eq_true rfl) (fun G => rfl) ?_
  refine C_aload_n dX7_init_28 rfl (by decide) ?_
  refine C_bipush (v := nI 32) dX7_init_29 (by decide) ?_
  refine X_newa (R := rmC7) (k0 := 49) (n := 3) (ns := 135) (N := 32) (t0 := 0) (cI := fun G => G.2.1.1) (a0 := (32, .inl (fun _ => 0))) (fun G => [.inl (G.2.1.1, (96, .inl (fun _ => 0))), .inl (G.2.1.1, (7, .inl (fun _ => 0))), .inl (G.2.1.1, (32, .inl (fun _ => 0))), .inl (G.2.1.1, (32, .inl (fun _ => 0)))]) 4 167 53 dX7_init_31 rfl tc_i (fun G => rfl) ra_i (fun _ => rfl) (fun G => rfl) (Nat.le_of_ble_eq_true rfl) (by decide) (by decide) (Nat.le_of_ble_eq_true rfl) (Nat.le_of_ble_eq_true rfl) rfl rfl rfl (fun G => rfl) ?_
  refine X_putF (k0 := 49) (w := 53) (ci := 7) (j := 3) (ty := (.array .int)) (fs := (fun G => [.ref (adO G 50), .ref (adO G 51), .ref (adO G 52), .null, .null, .null, .null, .null, .null, .int 0, .int 0, .int 0, .int 0, .long 0, .int 0, .int 0, .null, .null, .null, .null, .null, .null, .int 0])) (fun G => [.ref (adO G 50), .ref (adO G 51), .ref (adO G 52), .ref (adO G 53), .null, .null, .null, .null, .null, .int 0, .int 0, .int 0, .int 0, .long 0, .int 0, .int 0, .null, .null, .null, .null, .null, .null, .int 0]) dX7_init_33 fdc_7_19 ffc_7_3 (fun _ => ⟨rfl, rfl⟩) (fun G => Nat.le_of_ble_eq_true rfl) (by decide) (fun G => Nat.le_of_ble_eq_true rfl) (fun G => rfl) ?_
  refine C_aload_n dX7_init_36 rfl (by decide) ?_
  refine C_sipush (v := nI 4096) dX7_init_37 (by decide) ?_
  refine X_newa (R := rmC7) (k0 := 49) (n := 4) (ns := 167) (N := 4096) (t0 := 1) (cI := fun G => G.2.1.2.1) (a0 := (4096, .inr (.inl (fun _ => 0)))) (fun G => [.inl (G.2.1.1, (96, .inl (fun _ => 0))), .inl (G.2.1.1, (7, .inl (fun _ => 0))), .inl (G.2.1.1, (32, .inl (fun _ => 0))), .inl (G.2.1.1, (32, .inl (fun _ => 0))), .inl (G.2.1.2.1, (4096, .inr (.inl (fun _ => 0))))]) 5 4263 54 dX7_init_40 rfl tc_l (fun G => rfl) ra_l (fun _ => rfl) (fun G => rfl) (Nat.le_of_ble_eq_true rfl) (by decide) (by decide) (Nat.le_of_ble_eq_true rfl) (Nat.le_of_ble_eq_true rfl) rfl rfl rfl (fun G => rfl) ?_
  refine X_putF (k0 := 49) (w := 54) (ci := 7) (j := 4) (ty := (.array .long)) (fs := (fun G => [.ref (adO G 50), .ref (adO G 51), .ref (adO G 52), .ref (adO G 53), .null, .null, .null, .null, .null, .int 0, .int 0, .int 0, .int 0, .long 0, .int 0, .int 0, .null, .null, .null, .null, .null, .null, .int 0])) (fun G => [.ref (adO G 50), .ref (adO G 51), .ref (adO G 52), .ref (adO G 53), .ref (adO G 54), .null, .null, .null, .null, .int 0, .int 0, .int 0, .int 0, .long 0, .int 0, .int 0, .null, .null, .null, .null, .null, .null, .int 0]) dX7_init_42 fdc_7_22 ffc_7_4 (fun _ => ⟨rfl, rfl⟩) (fun G => Nat.le_of_ble_eq_true rfl) (by decide) (fun G => Nat.le_of_ble_eq_true rfl) (fun G => rfl) ?_
  refine C_aload_n dX7_init_45 rfl (by decide) ?_
  refine C_sipush (v := nI 4096) dX7_init_46 (by decide) ?_
  refine X_newa (R := rmC7) (k0 := 49) (n := 5) (ns := 4263) (N := 4096) (t0 := 0) (cI := fun G => G.2.1.1) (a0 := (4096, .inl (fun _ => 0))) (fun G => [.inl (G.2.1.1, (96, .inl (fun _ => 0))), .inl (G.2.1.1, (7, .inl (fun _ => 0))), .inl (G.2.1.1, (32, .inl (fun _ => 0))), .inl (G.2.1.1, (32, .inl (fun _ => 0))), .inl (G.2.1.2.1, (4096, .inr (.inl (fun _ => 0)))), .inl (G.2.1.1, (4096, .inl (fun _ => 0)))]) 6 8359 55 dX7_init_49 rfl tc_i (fun G => rfl) ra_i (fun _ => rfl) (fun G => rfl) (Nat.le_of_ble_eq_true rfl) (by decide) (by decide) (Nat.le_of_ble_eq_true rfl) (Nat.le_of_ble_eq_true rfl) rfl rfl rfl (fun G => rfl) ?_
  refine X_putF (k0 := 49) (w := 55) (ci := 7) (j := 5) (ty := (.array .int)) (fs := (fun G => [.ref (adO G 50), .ref (adO G 51), .ref (adO G 52), .ref (adO G 53), .ref (adO G 54), .null, .null, .null, .null, .int 0, .int 0, .int 0, .int 0, .long 0, .int 0, .int 0, .null, .null, .null, .null, .null, .null, .int 0])) (fun G => [.ref (adO G 50), .ref (adO G 51), .ref (adO G 52), .ref (adO G 53), .ref (adO G 54), .ref (adO G 55), .null, .null, .null, .int 0, .int 0, .int 0, .int 0, .long 0, .int 0, .int 0, .null, .null, .null, .null, .null, .null, .int 0]) dX7_init_51 fdc_7_26 ffc_7_5 (fun _ => ⟨rfl, rfl⟩) (fun G => Nat.le_of_ble_eq_true rfl) (by decide) (fun G => Nat.le_of_ble_eq_true rfl) (fun G => rfl) ?_
  refine C_aload_n dX7_init_54 rfl (by decide) ?_
  refine C_sipush (v := nI 4096) dX7_init_55 (by decide) ?_
  refine X_newa (R := rmC7) (k0 := 49) (n := 6) (ns := 8359) (N := 4096) (t0 := 2) (cI := fun G => G.2.1.2.2.1) (a0 := (4096, .inl (fun _ => 0))) (fun G => [.inl (G.2.1.1, (96, .inl (fun _ => 0))), .inl (G.2.1.1, (7, .inl (fun _ => 0))), .inl (G.2.1.1, (32, .inl (fun _ => 0))), .inl (G.2.1.1, (32, .inl (fun _ => 0))), .inl (G.2.1.2.1, (4096, .inr (.inl (fun _ => 0)))), .inl (G.2.1.1, (4096, .inl (fun _ => 0))), .inl (G.2.1.2.2.1, (4096, .inl (fun _ => 0)))]) 7 12455 56 dX7_init_58 rfl tc_z (fun G => rfl) ra_z (fun _ => rfl) (fun G => rfl) (Nat.le_of_ble_eq_true rfl) (by decide) (by decide) (Nat.le_of_ble_eq_true rfl) (Nat.le_of_ble_eq_true rfl) rfl rfl rfl (fun G => rfl) ?_
  refine X_putF (k0 := 49) (w := 56) (ci := 7) (j := 6) (ty := (.array .boolean)) (fs := (fun G => [.ref (adO G 50), .ref (adO G 51), .ref (adO G 52), .ref (adO G 53), .ref (adO G 54), .ref (adO G 55), .null, .null, .null, .int 0, .int 0, .int 0, .int 0, .long 0, .int 0, .int 0, .null, .null, .null, .null, .null, .null, .int 0])) (fun G => [.ref (adO G 50), .ref (adO G 51), .ref (adO G 52), .ref (adO G 53), .ref (adO G 54), .ref (adO G 55), .ref (adO G 56), .null, .null, .int 0, .int 0, .int 0, .int 0, .long 0, .int 0, .int 0, .null, .null, .null, .null, .null, .null, .int 0]) dX7_init_60 fdc_7_29 ffc_7_6 (fun _ => ⟨rfl, rfl⟩) (fun G => Nat.le_of_ble_eq_true rfl) (by decide) (fun G => Nat.le_of_ble_eq_true rfl) (fun G => rfl) ?_
  refine C_aload_n dX7_init_63 rfl (by decide) ?_
  refine C_sipush (v := nI 4096) dX7_init_64 (by decide) ?_
  refine X_newa (R := rmC7) (k0 := 49) (n := 7) (ns := 12455) (N := 4096) (t0 := 0) (cI := fun G => G.2.1.1) (a0 := (4096, .inl (fun _ => 0))) (fun G => [.inl (G.2.1.1, (96, .inl (fun _ => 0))), .inl (G.2.1.1, (7, .inl (fun _ => 0))), .inl (G.2.1.1, (32, .inl (fun _ => 0))), .inl (G.2.1.1, (32, .inl (fun _ => 0))), .inl (G.2.1.2.1, (4096, .inr (.inl (fun _ => 0)))), .inl (G.2.1.1, (4096, .inl (fun _ => 0))), .inl (G.2.1.2.2.1, (4096, .inl (fun _ => 0))), .inl (G.2.1.1, (4096, .inl (fun _ => 0)))]) 8 16551 57 dX7_init_67 rfl tc_i (fun G => rfl) ra_i (fun _ => rfl) (fun G => rfl) (Nat.le_of_ble_eq_true rfl) (by decide) (by decide) (Nat.le_of_ble_eq_true rfl) (Nat.le_of_ble_eq_true rfl) rfl rfl rfl (fun G => rfl) ?_
  refine X_putF (k0 := 49) (w := 57) (ci := 7) (j := 7) (ty := (.array .int)) (fs := (fun G => [.ref (adO G 50), .ref (adO G 51), .ref (adO G 52), .ref (adO G 53), .ref (adO G 54), .ref (adO G 55), .ref (adO G 56), .null, .null, .int 0, .int 0, .int 0, .int 0, .long 0, .int 0, .int 0, .null, .null, .null, .null, .null, .null, .int 0])) (fun G => [.ref (adO G 50), .ref (adO G 51), .ref (adO G 52), .ref (adO G 53), .ref (adO G 54), .ref (adO G 55), .ref (adO G 56), .ref (adO G 57), .null, .int 0, .int 0, .int 0, .int 0, .long 0, .int 0, .int 0, .null, .null, .null, .null, .null, .null, .int 0]) dX7_init_69 fdc_7_33 ffc_7_7 (fun _ => ⟨rfl, rfl⟩) (fun G => Nat.le_of_ble_eq_true rfl) (by decide) (fun G => Nat.le_of_ble_eq_true rfl) (fun G => rfl) ?_
  refine C_aload_n dX7_init_72 rfl (by decide) ?_
  refine C_bipush (v := nI 120) dX7_init_73 (by decide) ?_
  refine X_newa (R := rmC7) (k0 := 49) (n := 8) (ns := 16551) (N := 120) (t0 := 0) (cI := fun G => G.2.1.1) (a0 := (120, .inl (fun _ => 0))) (fun G => [.inl (G.2.1.1, (96, .inl (fun _ => 0))), .inl (G.2.1.1, (7, .inl (fun _ => 0))), .inl (G.2.1.1, (32, .inl (fun _ => 0))), .inl (G.2.1.1, (32, .inl (fun _ => 0))), .inl (G.2.1.2.1, (4096, .inr (.inl (fun _ => 0)))), .inl (G.2.1.1, (4096, .inl (fun _ => 0))), .inl (G.2.1.2.2.1, (4096, .inl (fun _ => 0))), .inl (G.2.1.1, (4096, .inl (fun _ => 0))), .inl (G.2.1.1, (120, .inl (fun _ => 0)))]) 9 16671 58 dX7_init_75 rfl tc_i (fun G => rfl) ra_i (fun _ => rfl) (fun G => rfl) (Nat.le_of_ble_eq_true rfl) (by decide) (by decide) (Nat.le_of_ble_eq_true rfl) (Nat.le_of_ble_eq_true rfl) rfl rfl rfl (fun G => rfl) ?_
  refine X_putF (k0 := 49) (w := 58) (ci := 7) (j := 8) (ty := (.array .int)) (fs := (fun G => [.ref (adO G 50), .ref (adO G 51), .ref (adO G 52), .ref (adO G 53), .ref (adO G 54), .ref (adO G 55), .ref (adO G 56), .ref (adO G 57), .null, .int 0, .int 0, .int 0, .int 0, .long 0, .int 0, .int 0, .null, .null, .null, .null, .null, .null, .int 0])) (fun G => [.ref (adO G 50), .ref (adO G 51), .ref (adO G 52), .ref (adO G 53), .ref (adO G 54), .ref (adO G 55), .ref (adO G 56), .ref (adO G 57), .ref (adO G 58), .int 0, .int 0, .int 0, .int 0, .long 0, .int 0, .int 0, .null, .null, .null, .null, .null, .null, .int 0]) dX7_init_77 fdc_7_36 ffc_7_8 (fun _ => ⟨rfl, rfl⟩) (fun G => Nat.le_of_ble_eq_true rfl) (by decide) (fun G => Nat.le_of_ble_eq_true rfl) (fun G => rfl) ?_
  refine C_aload_n dX7_init_80 rfl (by decide) ?_
  refine C_iconst (v := nI 4) dX7_init_81 (by decide) ?_
  refine X_newa (R := rmC7) (k0 := 49) (n := 9) (ns := 16671) (N := 4) (t0 := 0) (cI := fun G => G.2.1.1) (a0 := (4, .inl (fun _ => 0))) (fun G => [.inl (G.2.1.1, (96, .inl (fun _ => 0))), .inl (G.2.1.1, (7, .inl (fun _ => 0))), .inl (G.2.1.1, (32, .inl (fun _ => 0))), .inl (G.2.1.1, (32, .inl (fun _ => 0))), .inl (G.2.1.2.1, (4096, .inr (.inl (fun _ => 0)))), .inl (G.2.1.1, (4096, .inl (fun _ => 0))), .inl (G.2.1.2.2.1, (4096, .inl (fun _ => 0))), .inl (G.2.1.1, (4096, .inl (fun _ => 0))), .inl (G.2.1.1, (120, .inl (fun _ => 0))), .inl (G.2.1.1, (4, .inl (fun _ => 0)))]) 10 16675 59 dX7_init_82 rfl tc_i (fun G => rfl) ra_i (fun _ => rfl) (fun G => rfl) (Nat.le_of_ble_eq_true rfl) (by decide) (by decide) (Nat.le_of_ble_eq_true rfl) (Nat.le_of_ble_eq_true rfl) rfl rfl rfl (fun G => rfl) ?_
  refine X_putF (k0 := 49) (w := 59) (ci := 7) (j := 16) (ty := (.array .int)) (fs := (fun G => [.ref (adO G 50), .ref (adO G 51), .ref (adO G 52), .ref (adO G 53), .ref (adO G 54), .ref (adO G 55), .ref (adO G 56), .ref (adO G 57), .ref (adO G 58), .int 0, .int 0, .int 0, .int 0, .long 0, .int 0, .int 0, .null, .null, .null, .null, .null, .null, .int 0])) (fun G => [.ref (adO G 50), .ref (adO G 51), .ref (adO G 52), .ref (adO G 53), .ref (adO G 54), .ref (adO G 55), .ref (adO G 56), .ref (adO G 57), .ref (adO G 58), .int 0, .int 0, .int 0, .int 0, .long 0, .int 0, .int 0, .ref (adO G 59), .null, .null, .null, .null, .null, .int 0]) dX7_init_84 fdc_7_39 ffc_7_16 (fun _ => ⟨rfl, rfl⟩) (fun G => Nat.le_of_ble_eq_true rfl) (by decide) (fun G => Nat.le_of_ble_eq_true rfl) (fun G => rfl) ?_
  refine C_aload_n dX7_init_87 rfl (by decide) ?_
  refine C_iconst (v := nI 4) dX7_init_88 (by decide) ?_
  refine X_newa (R := rmC7) (k0 := 49) (n := 10) (ns := 16675) (N := 4) (t0 := 0) (cI := fun G => G.2.1.1) (a0 := (4, .inl (fun _ => 0))) (fun G => [.inl (G.2.1.1, (96, .inl (fun _ => 0))), .inl (G.2.1.1, (7, .inl (fun _ => 0))), .inl (G.2.1.1, (32, .inl (fun _ => 0))), .inl (G.2.1.1, (32, .inl (fun _ => 0))), .inl (G.2.1.2.1, (4096, .inr (.inl (fun _ => 0)))), .inl (G.2.1.1, (4096, .inl (fun _ => 0))), .inl (G.2.1.2.2.1, (4096, .inl (fun _ => 0))), .inl (G.2.1.1, (4096, .inl (fun _ => 0))), .inl (G.2.1.1, (120, .inl (fun _ => 0))), .inl (G.2.1.1, (4, .inl (fun _ => 0))), .inl (G.2.1.1, (4, .inl (fun _ => 0)))]) 11 16679 60 dX7_init_89 rfl tc_i (fun G => rfl) ra_i (fun _ => rfl) (fun G => rfl) (Nat.le_of_ble_eq_true rfl) (by decide) (by decide) (Nat.le_of_ble_eq_true rfl) (Nat.le_of_ble_eq_true rfl) rfl rfl rfl (fun G => rfl) ?_
  refine X_putF (k0 := 49) (w := 60) (ci := 7) (j := 17) (ty := (.array .int)) (fs := (fun G => [.ref (adO G 50), .ref (adO G 51), .ref (adO G 52), .ref (adO G 53), .ref (adO G 54), .ref (adO G 55), .ref (adO G 56), .ref (adO G 57), .ref (adO G 58), .int 0, .int 0, .int 0, .int 0, .long 0, .int 0, .int 0, .ref (adO G 59), .null, .null, .null, .null, .null, .int 0])) (fun G => [.ref (adO G 50), .ref (adO G 51), .ref (adO G 52), .ref (adO G 53), .ref (adO G 54), .ref (adO G 55), .ref (adO G 56), .ref (adO G 57), .ref (adO G 58), .int 0, .int 0, .int 0, .int 0, .long 0, .int 0, .int 0, .ref (adO G 59), .ref (adO G 60), .null, .null, .null, .null, .int 0]) dX7_init_91 fdc_7_42 ffc_7_17 (fun _ => ⟨rfl, rfl⟩) (fun G => Nat.le_of_ble_eq_true rfl) (by decide) (fun G => Nat.le_of_ble_eq_true rfl) (fun G => rfl) ?_
  refine C_aload_n dX7_init_94 rfl (by decide) ?_
  refine C_sipush (v := nI 160) dX7_init_95 (by decide) ?_
  refine X_newa (R := rmC7) (k0 := 49) (n := 11) (ns := 16679) (N := 160) (t0 := 1) (cI := fun G => G.2.1.2.1) (a0 := (160, .inr (.inl (fun _ => 0)))) (fun G => [.inl (G.2.1.1, (96, .inl (fun _ => 0))), .inl (G.2.1.1, (7, .inl (fun _ => 0))), .inl (G.2.1.1, (32, .inl (fun _ => 0))), .inl (G.2.1.1, (32, .inl (fun _ => 0))), .inl (G.2.1.2.1, (4096, .inr (.inl (fun _ => 0)))), .inl (G.2.1.1, (4096, .inl (fun _ => 0))), .inl (G.2.1.2.2.1, (4096, .inl (fun _ => 0))), .inl (G.2.1.1, (4096, .inl (fun _ => 0))), .inl (G.2.1.1, (120, .inl (fun _ => 0))), .inl (G.2.1.1, (4, .inl (fun _ => 0))), .inl (G.2.1.1, (4, .inl (fun _ => 0))), .inl (G.2.1.2.1, (160, .inr (.inl (fun _ => 0))))]) 12 16839 61 dX7_init_98 rfl tc_l (fun G => rfl) ra_l (fun _ => rfl) (fun G => rfl) (Nat.le_of_ble_eq_true rfl) (by decide) (by decide) (Nat.le_of_ble_eq_true rfl) (Nat.le_of_ble_eq_true rfl) rfl rfl rfl (fun G => rfl) ?_
  refine X_putF (k0 := 49) (w := 61) (ci := 7) (j := 18) (ty := (.array .long)) (fs := (fun G => [.ref (adO G 50), .ref (adO G 51), .ref (adO G 52), .ref (adO G 53), .ref (adO G 54), .ref (adO G 55), .ref (adO G 56), .ref (adO G 57), .ref (adO G 58), .int 0, .int 0, .int 0, .int 0, .long 0, .int 0, .int 0, .ref (adO G 59), .ref (adO G 60), .null, .null, .null, .null, .int 0])) (fun G => [.ref (adO G 50), .ref (adO G 51), .ref (adO G 52), .ref (adO G 53), .ref (adO G 54), .ref (adO G 55), .ref (adO G 56), .ref (adO G 57), .ref (adO G 58), .int 0, .int 0, .int 0, .int 0, .long 0, .int 0, .int 0, .ref (adO G 59), .ref (adO G 60), .ref (adO G 61), .null, .null, .null, .int 0]) dX7_init_100 fdc_7_45 ffc_7_18 (fun _ => ⟨rfl, rfl⟩) (fun G => Nat.le_of_ble_eq_true rfl) (by decide) (fun G => Nat.le_of_ble_eq_true rfl) (fun G => rfl) ?_
  refine C_aload_n dX7_init_103 rfl (by decide) ?_
  refine C_bipush (v := nI 40) dX7_init_104 (by decide) ?_
  refine X_newa (R := rmC7) (k0 := 49) (n := 12) (ns := 16839) (N := 40) (t0 := 1) (cI := fun G => G.2.1.2.1) (a0 := (40, .inr (.inl (fun _ => 0)))) (fun G => [.inl (G.2.1.1, (96, .inl (fun _ => 0))), .inl (G.2.1.1, (7, .inl (fun _ => 0))), .inl (G.2.1.1, (32, .inl (fun _ => 0))), .inl (G.2.1.1, (32, .inl (fun _ => 0))), .inl (G.2.1.2.1, (4096, .inr (.inl (fun _ => 0)))), .inl (G.2.1.1, (4096, .inl (fun _ => 0))), .inl (G.2.1.2.2.1, (4096, .inl (fun _ => 0))), .inl (G.2.1.1, (4096, .inl (fun _ => 0))), .inl (G.2.1.1, (120, .inl (fun _ => 0))), .inl (G.2.1.1, (4, .inl (fun _ => 0))), .inl (G.2.1.1, (4, .inl (fun _ => 0))), .inl (G.2.1.2.1, (160, .inr (.inl (fun _ => 0)))), .inl (G.2.1.2.1, (40, .inr (.inl (fun _ => 0))))]) 13 16879 62 dX7_init_106 rfl tc_l (fun G => rfl) ra_l (fun _ => rfl) (fun G => rfl) (Nat.le_of_ble_eq_true rfl) (by decide) (by decide) (Nat.le_of_ble_eq_true rfl) (Nat.le_of_ble_eq_true rfl) rfl rfl rfl (fun G => rfl) ?_
  refine X_putF (k0 := 49) (w := 62) (ci := 7) (j := 19) (ty := (.array .long)) (fs := (fun G => [.ref (adO G 50), .ref (adO G 51), .ref (adO G 52), .ref (adO G 53), .ref (adO G 54), .ref (adO G 55), .ref (adO G 56), .ref (adO G 57), .ref (adO G 58), .int 0, .int 0, .int 0, .int 0, .long 0, .int 0, .int 0, .ref (adO G 59), .ref (adO G 60), .ref (adO G 61), .null, .null, .null, .int 0])) (fun G => [.ref (adO G 50), .ref (adO G 51), .ref (adO G 52), .ref (adO G 53), .ref (adO G 54), .ref (adO G 55), .ref (adO G 56), .ref (adO G 57), .ref (adO G 58), .int 0, .int 0, .int 0, .int 0, .long 0, .int 0, .int 0, .ref (adO G 59), .ref (adO G 60), .ref (adO G 61), .ref (adO G 62), .null, .null, .int 0]) dX7_init_108 fdc_7_48 ffc_7_19 (fun _ => ⟨rfl, rfl⟩) (fun G => Nat.le_of_ble_eq_true rfl) (by decide) (fun G => Nat.le_of_ble_eq_true rfl) (fun G => rfl) ?_
  refine C_aload_n dX7_init_111 rfl (by decide) ?_
  refine C_bipush (v := nI 96) dX7_init_112 (by decide) ?_
  refine X_newa (R := rmC7) (k0 := 49) (n := 13) (ns := 16879) (N := 96) (t0 := 0) (cI := fun G => G.2.1.1) (a0 := (96, .inl (fun _ => 0))) (fun G => [.inl (G.2.1.1, (96, .inl (fun _ => 0))), .inl (G.2.1.1, (7, .inl (fun _ => 0))), .inl (G.2.1.1, (32, .inl (fun _ => 0))), .inl (G.2.1.1, (32, .inl (fun _ => 0))), .inl (G.2.1.2.1, (4096, .inr (.inl (fun _ => 0)))), .inl (G.2.1.1, (4096, .inl (fun _ => 0))), .inl (G.2.1.2.2.1, (4096, .inl (fun _ => 0))), .inl (G.2.1.1, (4096, .inl (fun _ => 0))), .inl (G.2.1.1, (120, .inl (fun _ => 0))), .inl (G.2.1.1, (4, .inl (fun _ => 0))), .inl (G.2.1.1, (4, .inl (fun _ => 0))), .inl (G.2.1.2.1, (160, .inr (.inl (fun _ => 0)))), .inl (G.2.1.2.1, (40, .inr (.inl (fun _ => 0)))), .inl (G.2.1.1, (96, .inl (fun _ => 0)))]) 14 16975 63 dX7_init_114 rfl tc_i (fun G => rfl) ra_i (fun _ => rfl) (fun G => rfl) (Nat.le_of_ble_eq_true rfl) (by decide) (by decide) (Nat.le_of_ble_eq_true rfl) (Nat.le_of_ble_eq_true rfl) rfl rfl rfl (fun G => rfl) ?_
  refine X_putF (k0 := 49) (w := 63) (ci := 7) (j := 20) (ty := (.array .int)) (fs := (fun G => [.ref (adO G 50), .ref (adO G 51), .ref (adO G 52), .ref (adO G 53), .ref (adO G 54), .ref (adO G 55), .ref (adO G 56), .ref (adO G 57), .ref (adO G 58), .int 0, .int 0, .int 0, .int 0, .long 0, .int 0, .int 0, .ref (adO G 59), .ref (adO G 60), .ref (adO G 61), .ref (adO G 62), .null, .null, .int 0])) (fun G => [.ref (adO G 50), .ref (adO G 51), .ref (adO G 52), .ref (adO G 53), .ref (adO G 54), .ref (adO G 55), .ref (adO G 56), .ref (adO G 57), .ref (adO G 58), .int 0, .int 0, .int 0, .int 0, .long 0, .int 0, .int 0, .ref (adO G 59), .ref (adO G 60), .ref (adO G 61), .ref (adO G 62), .ref (adO G 63), .null, .int 0]) dX7_init_116 fdc_7_51 ffc_7_20 (fun _ => ⟨rfl, rfl⟩) (fun G => Nat.le_of_ble_eq_true rfl) (by decide) (fun G => Nat.le_of_ble_eq_true rfl) (fun G => rfl) ?_
  refine C_aload_n dX7_init_119 rfl (by decide) ?_
  refine C_bipush (v := nI 96) dX7_init_120 (by decide) ?_
  refine X_newa (R := rmC7) (k0 := 49) (n := 14) (ns := 16975) (N := 96) (t0 := 0) (cI := fun G => G.2.1.1) (a0 := (96, .inl (fun _ => 0))) (fun G => [.inl (G.2.1.1, (96, .inl (fun _ => 0))), .inl (G.2.1.1, (7, .inl (fun _ => 0))), .inl (G.2.1.1, (32, .inl (fun _ => 0))), .inl (G.2.1.1, (32, .inl (fun _ => 0))), .inl (G.2.1.2.1, (4096, .inr (.inl (fun _ => 0)))), .inl (G.2.1.1, (4096, .inl (fun _ => 0))), .inl (G.2.1.2.2.1, (4096, .inl (fun _ => 0))), .inl (G.2.1.1, (4096, .inl (fun _ => 0))), .inl (G.2.1.1, (120, .inl (fun _ => 0))), .inl (G.2.1.1, (4, .inl (fun _ => 0))), .inl (G.2.1.1, (4, .inl (fun _ => 0))), .inl (G.2.1.2.1, (160, .inr (.inl (fun _ => 0)))), .inl (G.2.1.2.1, (40, .inr (.inl (fun _ => 0)))), .inl (G.2.1.1, (96, .inl (fun _ => 0))), .inl (G.2.1.1, (96, .inl (fun _ => 0)))]) 15 17071 64 dX7_init_122 rfl tc_i (fun G => rfl) ra_i (fun _ => rfl) (fun G => rfl) (Nat.le_of_ble_eq_true rfl) (by decide) (by decide) (Nat.le_of_ble_eq_true rfl) (Nat.le_of_ble_eq_true rfl) rfl rfl rfl (fun G => rfl) ?_
  refine X_putF (k0 := 49) (w := 64) (ci := 7) (j := 21) (ty := (.array .int)) (fs := (fun G => [.ref (adO G 50), .ref (adO G 51), .ref (adO G 52), .ref (adO G 53), .ref (adO G 54), .ref (adO G 55), .ref (adO G 56), .ref (adO G 57), .ref (adO G 58), .int 0, .int 0, .int 0, .int 0, .long 0, .int 0, .int 0, .ref (adO G 59), .ref (adO G 60), .ref (adO G 61), .ref (adO G 62), .ref (adO G 63), .null, .int 0])) (fun G => [.ref (adO G 50), .ref (adO G 51), .ref (adO G 52), .ref (adO G 53), .ref (adO G 54), .ref (adO G 55), .ref (adO G 56), .ref (adO G 57), .ref (adO G 58), .int 0, .int 0, .int 0, .int 0, .long 0, .int 0, .int 0, .ref (adO G 59), .ref (adO G 60), .ref (adO G 61), .ref (adO G 62), .ref (adO G 63), .ref (adO G 64), .int 0]) dX7_init_124 fdc_7_54 ffc_7_21 (fun _ => ⟨rfl, rfl⟩) (fun G => Nat.le_of_ble_eq_true rfl) (by decide) (fun G => Nat.le_of_ble_eq_true rfl) (fun G => rfl) ?_
  refine C_aload_n dX7_init_127 rfl (by decide) ?_
  refine C_getR (k0 := 49) (ci := 7) (j := 0) (w := 50) (fs := (fun G => [.ref (adO G 50), .ref (adO G 51), .ref (adO G 52), .ref (adO G 53), .ref (adO G 54), .ref (adO G 55), .ref (adO G 56), .ref (adO G 57), .ref (adO G 58), .int 0, .int 0, .int 0, .int 0, .long 0, .int 0, .int 0, .ref (adO G 59), .ref (adO G 60), .ref (adO G 61), .ref (adO G 62), .ref (adO G 63), .ref (adO G 64), .int 0])) dX7_init_128 fdc_7_7 (by decide) (by decide) (fun G => rfl) ?_
  refine C_bipush (v := nI 92) dX7_init_131 (by decide) ?_
  refine C_bipush (v := nI 7) dX7_init_133 (by decide) ?_
  refine X_iast (k0 := 49) (qi := 0) (N := 96) (w := 50) (i := nI 92) (v := nI 7) (f := fun G => (fun _ => 0)) (fun G => [.inl (G.2.1.1, 96, .inl (upd (fun _ => 0) (nI 92).toNatClampNeg (nI 7))), .inl (G.2.1.1, (7, .inl (fun _ => 0))), .inl (G.2.1.1, (32, .inl (fun _ => 0))), .inl (G.2.1.1, (32, .inl (fun _ => 0))), .inl (G.2.1.2.1, (4096, .inr (.inl (fun _ => 0)))), .inl (G.2.1.1, (4096, .inl (fun _ => 0))), .inl (G.2.1.2.2.1, (4096, .inl (fun _ => 0))), .inl (G.2.1.1, (4096, .inl (fun _ => 0))), .inl (G.2.1.1, (120, .inl (fun _ => 0))), .inl (G.2.1.1, (4, .inl (fun _ => 0))), .inl (G.2.1.1, (4, .inl (fun _ => 0))), .inl (G.2.1.2.1, (160, .inr (.inl (fun _ => 0)))), .inl (G.2.1.2.1, (40, .inr (.inl (fun _ => 0)))), .inl (G.2.1.1, (96, .inl (fun _ => 0))), .inl (G.2.1.1, (96, .inl (fun _ => 0)))]) dX7_init_135 (fun G => rfl) (in_I (by decide) (by decide)) (fun G => Nat.le_of_ble_eq_true rfl) (by decide) rfl (fun G => rfl) ?_
  refine C_aload_n dX7_init_136 rfl (by decide) ?_
  refine C_getR (k0 := 49) (ci := 7) (j := 0) (w := 50) (fs := (fun G => [.ref (adO G 50), .ref (adO G 51), .ref (adO G 52), .ref (adO G 53), .ref (adO G 54), .ref (adO G 55), .ref (adO G 56), .ref (adO G 57), .ref (adO G 58), .int 0, .int 0, .int 0, .int 0, .long 0, .int 0, .int 0, .ref (adO G 59), .ref (adO G 60), .ref (adO G 61), .ref (adO G 62), .ref (adO G 63), .ref (adO G 64), .int 0])) dX7_init_137 fdc_7_7 (by decide) (by decide) (fun G => rfl) ?_
  refine C_bipush (v := nI 93) dX7_init_140 (by decide) ?_
  refine C_bipush (v := nI 10) dX7_init_142 (by decide) ?_
  refine X_iast (k0 := 49) (qi := 0) (N := 96) (w := 50) (i := nI 93) (v := nI 10) (f := fun G => (upd (fun _ => 0) (nI 92).toNatClampNeg (nI 7))) (fun G => [.inl (G.2.1.1, 96, .inl (upd (upd (fun _ => 0) (nI 92).toNatClampNeg (nI 7)) (nI 93).toNatClampNeg (nI 10))), .inl (G.2.1.1, (7, .inl (fun _ => 0))), .inl (G.2.1.1, (32, .inl (fun _ => 0))), .inl (G.2.1.1, (32, .inl (fun _ => 0))), .inl (G.2.1.2.1, (4096, .inr (.inl (fun _ => 0)))), .inl (G.2.1.1, (4096, .inl (fun _ => 0))), .inl (G.2.1.2.2.1, (4096, .inl (fun _ => 0))), .inl (G.2.1.1, (4096, .inl (fun _ => 0))), .inl (G.2.1.1, (120, .inl (fun _ => 0))), .inl (G.2.1.1, (4, .inl (fun _ => 0))), .inl (G.2.1.1, (4, .inl (fun _ => 0))), .inl (G.2.1.2.1, (160, .inr (.inl (fun _ => 0)))), .inl (G.2.1.2.1, (40, .inr (.inl (fun _ => 0)))), .inl (G.2.1.1, (96, .inl (fun _ => 0))), .inl (G.2.1.1, (96, .inl (fun _ => 0)))]) dX7_init_144 (fun G => rfl) (in_I (by decide) (by decide)) (fun G => Nat.le_of_ble_eq_true rfl) (by decide) rfl (fun G => rfl) ?_
  refine C_ret dX7_init_145 rfl rfl (fun G j hj => ?_)
  rcases (show j = 0 ∨ j = 1 ∨ j = 2 ∨ j = 3 ∨ j = 4 ∨ j = 5 ∨ j = 6 ∨ j = 7 ∨ j = 8 ∨ j = 9 ∨ j = 10 ∨ j = 11 ∨ j = 12 ∨ j = 13 ∨ j = 14 ∨ j = 15 by omega) with rfl | rfl | rfl | rfl | rfl | rfl | rfl | rfl | rfl | rfl | rfl | rfl | rfl | rfl | rfl | rfl
  · exact ⟨_, rfl, fo_7⟩
  · exact ⟨_, rfl, fin_row⟩
  · exact ⟨_, rfl, fun _ _ h => h⟩
  · exact ⟨_, rfl, fun _ _ h => h⟩
  · exact ⟨_, rfl, fun _ _ h => h⟩
  · exact ⟨_, rfl, fun _ _ h => h⟩
  · exact ⟨_, rfl, fun _ _ h => h⟩
  · exact ⟨_, rfl, fun _ _ h => h⟩
  · exact ⟨_, rfl, fun _ _ h => h⟩
  · exact ⟨_, rfl, fun _ _ h => h⟩
  · exact ⟨_, rfl, fun _ _ h => h⟩
  · exact ⟨_, rfl, fun _ _ h => h⟩
  · exact ⟨_, rfl, fun _ _ h => h⟩
  · exact ⟨_, rfl, fun _ _ h => h⟩
  · exact ⟨_, rfl, fun _ _ h => h⟩
  · exact ⟨_, rfl, fun _ _ h => h⟩
