/-! CONSTRUCTORS: the cells are made in the order of their numbers, one behind the other at the heap's end -/
def sg0 : St := (fun a j => if kd a = 0 ∧ j = 5 then 7 else if kd a = 0 ∧ j = 6 then 10 else if a = 50 ∧ j = 92 then 7 else if a = 50 ∧ j = 93 then 10 else 0, fun _ _ => 0)
def mkE (G : Gx) (k cnt : Nat) : List va_E := (List.range cnt).map (fun j => ceO G sg0 (k + j))
def wsC (G : Gx) : Nat → List va_E → va_W
  | _, [] => []
  | k, x :: es => (adO G k, x) :: wsC G (k + 1) es
theorem wsC_at {G : Gx} : ∀ (es : List va_E) (k j : Nat) (x : va_E), es[j]? = some x → (wsC G k es)[j]? = some (adO G (k + j), x) := by
  intro es
  induction es with
  | nil => intro k j x h; simp at h
  | cons y es ih =>
    intro k j x h
    cases j with
    | zero => simp only [List.getElem?_cons_zero, Option.some.injEq] at h; subst h; rfl
    | succ j =>
      simp only [List.getElem?_cons_succ] at h
      have := ih (k + 1) j x h
      rw [show k + 1 + j = k + (j + 1) by omega] at this
      exact this
theorem wsC_inv {G : Gx} : ∀ (es : List va_E) (k j : Nat) (q : Nat × va_E), (wsC G k es)[j]? = some q → ∃ x, es[j]? = some x ∧ q = (adO G (k + j), x) := by
  intro es
  induction es with
  | nil => intro k j q h; simp [wsC] at h
  | cons y es ih =>
    intro k j q h
    cases j with
    | zero =>
      simp only [wsC, List.getElem?_cons_zero, Option.some.injEq] at h
      exact ⟨y, rfl, h.symm⟩
    | succ j =>
      simp only [wsC, List.getElem?_cons_succ] at h
      obtain ⟨x, h1, h2⟩ := ih (k + 1) j q h
      exact ⟨x, by simpa using h1, by rw [h2, show k + 1 + j = k + (j + 1) by omega]⟩
theorem wsC_app {G : Gx} : ∀ (xs : List va_E) (k : Nat) (ys : List va_E), wsC G k (xs ++ ys) = wsC G k xs ++ wsC G (k + xs.length) ys := by
  intro xs
  induction xs with
  | nil => intro k ys; rfl
  | cons x xs ih =>
    intro k ys
    show (adO G k, x) :: wsC G (k + 1) (xs ++ ys) = (adO G k, x) :: (wsC G (k + 1) xs ++ wsC G (k + (xs.length + 1)) ys)
    rw [ih, show k + 1 + xs.length = k + (xs.length + 1) by omega]
theorem wsC_len {G : Gx} : ∀ (xs : List va_E) (k : Nat), (wsC G k xs).length = xs.length := by
  intro xs
  induction xs with
  | nil => intro k; rfl
  | cons x xs ih => intro k; simp [wsC, ih]
def Af (G : Gx) : Prop := ∀ k, k ≤ 65 → adO G k = adO G 0 + k
theorem wsC_D {G : Gx} (hf : Af G) {k : Nat} {es : List va_E} (hb : k + es.length ≤ 65) : va_D (fun q : Nat => adO G k ≤ q) (wsC G k es) := by
  refine ⟨fun i j p q hp hq e => ?_, fun i q hq => ?_⟩
  · obtain ⟨x, hx, rfl⟩ := wsC_inv _ _ _ _ hp
    obtain ⟨y, hy, rfl⟩ := wsC_inv _ _ _ _ hq
    have hi := (List.getElem?_eq_some_iff.mp hx).1
    have hj := (List.getElem?_eq_some_iff.mp hy).1
    replace e : adO G (k + i) = adO G (k + j) := e
    rw [hf (k + i) (by omega), hf (k + j) (by omega)] at e
    omega
  · obtain ⟨x, hx, rfl⟩ := wsC_inv _ _ _ _ hq
    have hi := (List.getElem?_eq_some_iff.mp hx).1
    show adO G k ≤ adO G (k + i)
    rw [hf k (by omega), hf (k + i) (by omega)]
    omega
theorem q_det {G : Gx} (hf : Af G) {k0 n q : Nat} (hb : k0 + n + 1 ≤ 65) (h1 : adO G k0 ≤ q) (h2 : q < adO G (k0 + 1) + (n + 1)) (h3 : ∀ j, j ≤ n → q ≠ adO G (k0 + j)) : q = adO G (k0 + n + 1) := by
  rw [hf k0 (by omega)] at h1
  rw [hf (k0 + 1) (by omega)] at h2
  rw [hf (k0 + n + 1) (by omega)]
  by_cases c : q - (adO G 0 + k0) ≤ n
  · have := h3 (q - (adO G 0 + k0)) c
    rw [hf (k0 + (q - (adO G 0 + k0))) (by omega)] at this
    omega
  · omega
theorem W_sz {p : Program} {l : Launch} {e : Env} {R : Room} {s : State} {m : MethodId} {args : Array Value} {below : List Frame} {meth : Method} {c : Code} {H : Heap} {locs : List Loc} {cells slots : Nat} {Q : State → Prop} {g : JFrame} (kk : H.size ≤ s.heap.size + cells → W p l e R s m args below meth c H locs cells slots Q g) : W p l e R s m args below meth c H locs cells slots Q g :=
  fun T hT X => kk (by rw [← hT]; exact X.heapSize) T hT X
/-- constructors of the nest's mates -/
def nlL : List (String × Nat × MethodName) := [("WallDown", 11, yX0_init), ("WallDown", 24, yX3_init), ("WallDown", 31, yX1_init), ("WallDown", 38, yX5_init), ("WallDown", 53, yX2_init), ("WallDown$Teller", 11, yX4_init), ("WallDown$Teller", 20, yX0_init), ("WallDown$Teller", 27, yX3_init)]
def Kc (G : Gx) (U : State) : Prop := va_K G.1 clsL (tysO G) U ∧ Af G ∧ va_AO "WallDown$Sheet" U ∧ ∀ q ∈ nlL, va_Nw (.methodLinkNest q.1 q.2.1 q.2.2 "WallDown") U
theorem Kc.to {G : Gx} {s U : State} (h : Kc G s) (hW : s.WarmedH U.vm) : Kc G U := ⟨h.1.moved hW.alike, h.2.1, h.2.2.1.moved hW.alike, fun q hq => va_Nw.warmM hW (h.2.2.2 q hq)⟩
theorem Kc.blind {G : Gx} {U : State} (h : Kc G U) (g : JFrame) (mk : MethodId) (a : Array Value) : Kc G (U.calling g mk a) :=
  ⟨va_K.moved (u := U) (U := U.calling g mk a) (Vm.Alike.refl U.vm) h.1, h.2.1, va_AO.moved (u := U) (U := U.calling g mk a) (Vm.Alike.refl U.vm) h.2.2.1, fun q hq => va_Nw.same rfl rfl (h.2.2.2 q hq)⟩
def QcC (G : Gx) (k0 cnt : Nat) : Array Value → State → Outcome → State → Prop := fun _ st o t => (o = .returned none ∧ ∀ j, j < cnt → va_at G.1 clsL (adO G (k0 + j), ceO G sg0 (k0 + j)) t.heap) ∧ va_F (fun q : Nat => adO G k0 ≤ q) st t
/-- a constructor's contract: the object is the heap's last cell, and blank -/
def Mc (y : MethodName) (cc : ByteArray) (nL : Nat) (R : Room) (k0 cnt ci : Nat) (fs0 : List Value) : Prop :=
  ∀ (l : Launch) (G : Gx), Met l y (.code y cc nL none :: Tg) R (va_Pc ([Value.ref k0].map (cv G)) (fun U => U.heap.size = adO G (k0 + 1) ∧ va_at G.1 clsL (adO G k0, .inr (ci, fs0)) U.heap ∧ Kc G U)) (QcC G k0 cnt) R.cells R.slots (fun q : Nat => adO G k0 ≤ q)
def Cj (cc : ByteArray) (nL : Nat) (own : String) (R : Room) (k0 cnt : Nat) (pc : Nat) (ls st : List Value) (n ns : Nat) (es : Gx → List va_E) : Prop :=
  ∀ (p : Program) (l : Launch) (e : Env) (s : State) (m : MethodId) (args : Array Value) (below : List Frame) (meth : Method) (c : Code) (G : Gx) (H : Heap) (locs : List Loc) (rl : Array Slot),
    CxO p s m args meth c cc nL none own → meth.name = "<init>" → Kc G s → s.heap.size = adO G (k0 + 1) → va_P G.1 clsL (wsC G k0 (es G)) H → va_S (fun q : Nat => adO G k0 ≤ q) s.heap H locs → lvO G rl nL ls →
    W p l e R s m args below meth c H locs n ns (MQ below (QcC G k0 cnt) args s R.cells R.slots (fun q : Nat => adO G k0 ≤ q)) (F0 m pc rl (st.map (cv G)))
theorem Mc.of {y : MethodName} {cc : ByteArray} {nL : Nat} {R : Room} {k0 cnt ci k : Nat} {fs0 ls : List Value} (hy : plainName y.cls = true) (hi : y.name = "<init>") (hl : argL [Value.ref k0] ++ List.replicate k un = ls) (hn : 1 ≤ nL) (h : Cj cc nL y.cls R k0 cnt 0 ls [] 0 0 (fun _ => [.inr (ci, fs0)])) : Mc y cc nL R k0 cnt ci fs0 := by
  intro l G
  refine Met.ofW (cc := cc) (maxL := nL) (ret := none) hy rfl ?_
  intro p e s m args below meth c s₁ B hml hv
  obtain ⟨rfl, hz, hP, hK⟩ := hv
  have hts := atoms_spec (ws := .code y cc nL none :: Tg) B.pre
  have hown : s.vm.findClass y.cls = some m.cls := findClass_of_methodNamed B.named
  have hin : meth.name = "<init>" := ((name_of_methodNamed B.named B.method).1).trans hi
  rw [lg_entry_eq]
  refine h p l e s m _ below meth c G s.heap [] _ ⟨B.exec, B.bytes, B.returns, hml, hown, fun w hw => hts w (List.mem_cons_of_mem _ hw), B.notSynchronized⟩ hin hK hz (fun i q hq => ?_) va_S.rf (lvO_entry G [Value.ref k0] hl hn)
  obtain ⟨x, hx, rfl⟩ := wsC_inv _ _ _ _ hq
  have h1 := (List.getElem?_eq_some_iff.mp hx).1
  have e0 : i = 0 := by simpa using h1
  subst e0
  simp only [List.getElem?_cons_zero, Option.some.injEq] at hx
  subst hx
  exact hP
section CR
variable {cc : ByteArray} {nL : Nat} {own : String} {R : Room} {k0 cnt : Nat} {pc : Nat} {ls ls' st : List Value} {n ns : Nat} {es : Gx → List va_E}
theorem C_iconst {i : Int} {v : Int32} (hd : decode cc pc = .ok (.iconst i, 1)) (hv : Int32.ofInt i = v) (h : Cj cc nL own R k0 cnt (pc + 1) ls (.int v :: st) n ns es) : Cj cc nL own R k0 cnt pc ls st n ns es := fun p l e s m a b me c G H lo rl C N K z P S L => lv_iconst C.1 C.2.1 hd hv (h p l e s m a b me c G H lo rl C N K z P S L)
theorem C_bipush {i : Int} {v : Int32} (hd : decode cc pc = .ok (.bipush i, 2)) (hv : (Int8.ofInt i).toInt32 = v) (h : Cj cc nL own R k0 cnt (pc + 2) ls (.int v :: st) n ns es) : Cj cc nL own R k0 cnt pc ls st n ns es := fun p l e s m a b me c G H lo rl C N K z P S L => lv_bipush C.1 C.2.1 hd hv (h p l e s m a b me c G H lo rl C N K z P S L)
theorem C_sipush {i : Int} {v : Int32} (hd : decode cc pc = .ok (.sipush i, 3)) (hv : (Int16.ofInt i).toInt32 = v) (h : Cj cc nL own R k0 cnt (pc + 3) ls (.int v :: st) n ns es) : Cj cc nL own R k0 cnt pc ls st n ns es := fun p l e s m a b me c G H lo rl C N K z P S L => lv_sipush C.1 C.2.1 hd hv (h p l e s m a b me c G H lo rl C N K z P S L)
theorem C_aload_n {k : Fin 4} {x : Nat} (hd : decode cc pc = .ok (.aload_n k, 1)) (hl : ls[(k : Nat)]? = some (.ref x)) (h9 : x < 65) (h : Cj cc nL own R k0 cnt (pc + 1) ls (.ref x :: st) n ns es) : Cj cc nL own R k0 cnt pc ls st n ns es := by
  intro p l e s m a b me c G H lo rl C N K z P S L
  have q := L.2.2 _ _ hl rfl
  have h' := h p l e s m a b me c G H lo rl C N K z P S L
  rw [List.map_cons] at h'
  have ec : cv G (.ref x) = .ref (adO G x) := cv_ref (by omega)
  rw [ec] at q h'
  exact lv_aload_n C.1 C.2.1 hd rfl q h'
theorem C_iload_n {k : Fin 4} {x : Int32} (hd : decode cc pc = .ok (.iload_n k, 1)) (hl : ls[(k : Nat)]? = some (.int x)) (h : Cj cc nL own R k0 cnt (pc + 1) ls (.int x :: st) n ns es) : Cj cc nL own R k0 cnt pc ls st n ns es := fun p l e s m a b me c G H lo rl C N K z P S L => lv_iload_n C.1 C.2.1 hd rfl (L.2.2 _ _ hl rfl) (h p l e s m a b me c G H lo rl C N K z P S L)
theorem C_istore_n {k : Fin 4} {x : Int32} (hd : decode cc pc = .ok (.istore_n k, 1)) (hn : (k : Nat) < nL) (hl : lset1 ls (k : Nat) (.int x) = ls') (h : Cj cc nL own R k0 cnt (pc + 1) ls' st n ns es) : Cj cc nL own R k0 cnt pc ls (.int x :: st) n ns es := fun p l e s m a b me c G H lo rl C N K z P S L => lv_istore_n C.1 C.2.1 hd rfl (lvO_has L) hn rfl (fun r2 h2 => h p l e s m a b me c G H lo r2 C N K z P S (lvO_of1 (rl := rl) (v := .int x) h2 hl))
theorem C_iinc {k : Nat} {i : Int} {x v : Int32} (hd : decode cc pc = .ok (.iinc k i, 3)) (hx : ls[k]? = some (.int x)) (hv : x + Int32.ofInt i = v) (hn : k < nL) (hl : lset1 ls k (.int v) = ls') (h : Cj cc nL own R k0 cnt (pc + 3) ls' st n ns es) : Cj cc nL own R k0 cnt pc ls st n ns es := by
  intro p l e s m a b me c G H lo rl C N K z P S L
  obtain ⟨q, hq⟩ := List.getElem?_of_mem (prO_in (G := G) hx rfl)
  exact lv_iinc C.1 C.2.1 hd (lvO_has L) hq hv hn rfl (fun r2 h2 => h p l e s m a b me c G H lo r2 C N K z P S (lvO_of1 (rl := rl) (v := .int v) h2 hl))
theorem C_dup {v : Value} (hd : decode cc pc = .ok (.dup, 1)) (hv : v.category = 1) (h : Cj cc nL own R k0 cnt (pc + 1) ls (v :: v :: st) n ns es) : Cj cc nL own R k0 cnt pc ls (v :: st) n ns es := fun p l e s m a b me c G H lo rl C N K z P S L => lv_dup C.1 C.2.1 hd (by rw [cv_cat]; exact hv) (h p l e s m a b me c G H lo rl C N K z P S L)
theorem C_icmp_ge {x y : Int32} {off : Int} (tgt : Nat) (hd : decode cc pc = .ok (.if_icmp .ge off, 3)) (ht : (pc : Int) + off = (tgt : Int)) (h1 : y ≤ x → Cj cc nL own R k0 cnt tgt ls st n ns es) (h2 : ¬ y ≤ x → Cj cc nL own R k0 cnt (pc + 3) ls st n ns es) : Cj cc nL own R k0 cnt pc ls (.int y :: .int x :: st) n ns es := fun p l e s m a b me c G H lo rl C N K z P S L => lv_icmp_ge C.1 C.2.1 hd ht (fun w => h1 w p l e s m a b me c G H lo rl C N K z P S L) (fun w => h2 w p l e s m a b me c G H lo rl C N K z P S L)
theorem C_goto {off : Int} (tgt : Nat) (hd : decode cc pc = .ok (.goto off, 3)) (ht : (pc : Int) + off = (tgt : Int)) (h : Cj cc nL own R k0 cnt tgt ls st n ns es) : Cj cc nL own R k0 cnt pc ls st n ns es := fun p l e s m a b me c G H lo rl C N K z P S L => lv_goto C.1 C.2.1 hd ht (h p l e s m a b me c G H lo rl C N K z P S L)
theorem C_obj {idx x : Nat} (hd : decode cc pc = .ok (.invokespecial idx, 3)) (hw : Cond.methodLink own idx Lib.objectInit ∈ Tg) (hw2 : Cond.instanceMethod Lib.objectInit ∈ Tg) (hw3 : Cond.code Lib.objectInit ⟨#[0xb1]⟩ 1 none ∈ Tg) (hx : x < 65) (hf : 1 ≤ R.frames) (hl : 12 ≤ R.locals) (h : Cj cc nL own R k0 cnt (pc + 3) ls [] n ns es) : Cj cc nL own R k0 cnt pc ls [.ref x] n ns es := by
  intro p l e s m a b me c G H lo rl C N K z P S L
  have ec : [Value.ref x].map (cv G) = [.ref (adO G x)] := by rw [List.map_cons, List.map_nil, cv_ref (by omega)]
  rw [ec]
  have hT := C.2.2.2.2.2.1
  exact W.objInit C.1 C.2.1 C.2.2.2.2.1 (hT _ hw) (hT _ hw2) (hT _ hw3) rfl (by rw [C.2.2.2.1]; exact L.1) rfl hd hf hl (h p l e s m a b me c G H lo rl C N K z P S L)
/-- a new array -/
theorem C_newa {aty : ArrayType} {ty : FieldType} {t0 N : Nat} {cI : Gx → ClassId} {a0 : vp_A} (hd : decode cc pc = .ok (.newarray aty, 2)) (hty : newarray.typeOf aty = ty) (hw : Cond.arrayClass (newarray.typeOf aty) ∈ Tg) (ht : ∀ G, (tysO G)[t0]? = some (cI G, ty)) (hra : ∀ (U : State) (cA cB : ClassId), va_RA U cA ty → va_RA U cB ty → cA = cB) (ha : ∀ cA : ClassId, vp_cell cA a0 = arrV cA N (fun _ => defaultValue ty))
    (hn : ∀ G, (es G).length = n + 1) (hb : k0 + n + 2 ≤ 65) (hN : N < 2 ^ 20) (hby : N * componentBytes ty ≤ 536870912) (hc : n + 1 ≤ R.cells) (hs : ns + N ≤ R.slots) (h : Cj cc nL own R k0 cnt (pc + 2) ls (.ref (k0 + n + 1) :: st) (n + 1) (ns + N) (fun G => es G ++ [.inl (cI G, a0)])) : Cj cc nL own R k0 cnt pc ls (.int (nI N) :: st) n ns es := by
  intro p l e s m a b me c G H lo rl C I K z P S L
  have hf := K.2.1
  have D := wsC_D hf (k := k0) (es := es G) (by rw [hn G]; omega)
  refine va_newa (atype := aty) (N' := N) (a0 := a0) C.1 C.2.1 (C.2.2.2.2.2.1 _ hw) hty K.1 P D S (fun q hq => ?_) ha (nI_pos (by omega)) (nI_clamp (by omega)) hby hc hs hd (fun q cA H1 K1 P1 D1 S1 => W_sz (fun sz => ?_))
  · rw [z, hf (k0 + 1) (by omega)] at hq
    show adO G k0 ≤ q
    rw [hf k0 (by omega)]; omega
  · have lw : (wsC G k0 (es G)).length = n + 1 := by rw [wsC_len, hn G]
    have at1 : (wsC G k0 (es G) ++ [(q, Sum.inl (cA, a0))])[n + 1]? = some (q, Sum.inl (cA, a0)) := by rw [List.getElem?_append_right (by omega), lw, Nat.sub_self]; rfl
    have eq : q = adO G (k0 + n + 1) := by
      refine q_det hf (by omega) (D1.2 _ _ at1) ?_ (fun j hj e => ?_)
      · have := (P1 _ _ at1).lt
        rw [z] at sz
        exact Nat.lt_of_lt_of_le this sz
      · obtain ⟨x, hx⟩ : ∃ x, (es G)[j]? = some x := ⟨_, List.getElem?_eq_getElem (by rw [hn G]; omega)⟩
        have at2 : (wsC G k0 (es G) ++ [(q, Sum.inl (cA, a0))])[j]? = some (adO G (k0 + j), x) := by rw [List.getElem?_append_left (by omega)]; exact wsC_at _ _ _ _ hx
        have := D1.1 _ _ _ _ at1 at2 e
        omega
    have ec : cA = cI G := by
      have g1 := K1.2 4 (cA, ty) rfl
      have g2 := K1.2 t0 (cI G, ty) (by
        have h0 := ht G
        rw [List.getElem?_append_left (List.getElem?_eq_some_iff.mp h0).1]; exact h0)
      exact hra s _ _ g1.2 g2.2
    rw [eq, ec] at P1
    have P2 : va_P G.1 clsL (wsC G k0 (es G ++ [.inl (cI G, a0)])) H1 := by
      rw [wsC_app, hn G]; exact P1
    have h' := h p l e s m a b me c G H1 lo rl C I K z P2 S1 L
    rw [List.map_cons, cv_ref (by omega)] at h'
    rw [eq]
    exact h'
/-- a new object -/
theorem C_new {ci idx : Nat} {Cn : vw_C} {fs : List Value} (ty0 : Nat → FieldType) (hd : decode cc pc = .ok (.new idx, 3)) (hcl : clsL[ci]? = some Cn) (hin : ∀ w ∈ u_ws Cn.1 Cn.2.1 Cn.2.2, w ∈ Tg) (hty : ∀ k, k < Cn.2.2 → parseFieldDescriptor (Cn.2.1 k).2.2.1 = some (ty0 k)) (w1 : Cond.classLink own idx Cn.1 ∈ Tg) (w2 : Cond.instantiable Cn.1 Cn.2.2 ∈ Tg) (w3 : Cond.initialized Cn.1 ∈ Tg) (hfs : ∀ j, j < Cn.2.2 → defaultValue (ty0 j) = vp_V fs j)
    (hn : ∀ G, (es G).length = n + 1) (hb : k0 + n + 2 ≤ 65) (hc : n + 1 ≤ R.cells) (hs : ns + Cn.2.2 ≤ R.slots) (h : Cj cc nL own R k0 cnt (pc + 3) ls (.ref (k0 + n + 1) :: st) (n + 1) (ns + Cn.2.2) (fun G => es G ++ [.inr (ci, fs)])) : Cj cc nL own R k0 cnt pc ls st n ns es := by
  intro p l e s m a b me c G H lo rl C I K z P S L
  have hf := K.2.1
  have hT := C.2.2.2.2.2.1
  have D := wsC_D hf (k := k0) (es := es G) (by rw [hn G]; omega)
  refine va_new (ci := ci) (fs := fs) (C := Cn.1) (T := Cn.2.1) (N := Cn.2.2) C.1 C.2.1 hT hin ty0 hty C.2.2.2.2.1 (hT _ w1) (hT _ w2) (hT _ w3) K.1 P D S (fun q hq => ?_) hcl hfs hc hs hd (fun q H1 P1 D1 S1 => W_sz (fun sz => ?_))
  · rw [z, hf (k0 + 1) (by omega)] at hq
    show adO G k0 ≤ q
    rw [hf k0 (by omega)]; omega
  · have lw : (wsC G k0 (es G)).length = n + 1 := by rw [wsC_len, hn G]
    have at1 : (wsC G k0 (es G) ++ [(q, Sum.inr (ci, fs))])[n + 1]? = some (q, Sum.inr (ci, fs)) := by rw [List.getElem?_append_right (by omega), lw, Nat.sub_self]; rfl
    have eq : q = adO G (k0 + n + 1) := by
      refine q_det hf (by omega) (D1.2 _ _ at1) ?_ (fun j hj e => ?_)
      · have := (P1 _ _ at1).lt
        rw [z] at sz
        exact Nat.lt_of_lt_of_le this sz
      · obtain ⟨x, hx⟩ : ∃ x, (es G)[j]? = some x := ⟨_, List.getElem?_eq_getElem (by rw [hn G]; omega)⟩
        have at2 : (wsC G k0 (es G) ++ [(q, Sum.inr (ci, fs))])[j]? = some (adO G (k0 + j), x) := by rw [List.getElem?_append_left (by omega)]; exact wsC_at _ _ _ _ hx
        have := D1.1 _ _ _ _ at1 at2 e
        omega
    rw [eq] at P1
    have P2 : va_P G.1 clsL (wsC G k0 (es G ++ [.inr (ci, fs)])) H1 := by
      rw [wsC_app, hn G]; exact P1
    have h' := h p l e s m a b me c G H1 lo rl C I K z P2 S1 L
    rw [List.map_cons, cv_ref (by omega)] at h'
    rw [eq]
    exact h'
end CR
