/-! THE CLAIM OUT OF ONE WALK OF THE LAW'S BODY. Your part is whole_start (and what it stands on); all else here is the same for every law, but numbers. -/
def R_law : String := "WallDownLaw"
def lw_P (b : Addr) (xs : List Int32) (args : Array Value) (s : State) : Prop := args = #[.ref b] ∧ s.IntsAt b xs ∧ xs.length ≤ 3072 ∧ (Jvm.Cond.and given_1 narrow_1).before args s = true
def lw_Q (_ : Array Value) (s : State) (o : Outcome) (t : State) : Prop := o = .returned (some (.int 1)) ∧ Framed s o t [] 600000 7302250
def lw_Z (below : List Frame) (a : Array Value) (s : State) : State → Prop := fun t => ∃ o, t.status = .running ∧ Ended t below o ∧ lw_Q a s o t
/-- the law's own end, with 1 on the stack, nothing written that was there before, its room as the claim has it -/
theorem lw_ret {p : Program} {l : Launch} {e : Env} {s : State} {m : MethodId} {below : List Frame} {meth : Method} {c : Code} {b : Nat} (hx : p.tables.exec = Jvm.exec) (hb : c.code = code) (hr : meth.sig.returnType = ret) (hlocks : meth.locks = false) {pc : Nat} {H : Heap} {ls : Array Slot} (hdg : decode code pc = .ok (.ireturn, 1)) : W p l e room_1 s m #[Value.ref b] below meth c H [] 600000 7302250 (lw_Z below #[Value.ref b] s) (F0 m pc ls [.int 1]) := by
  intro T hT X
  obtain ⟨fs, hret, hrun, hended, hW, hframe⟩ := X.leave (v := some (.int 1)) (hlocks := hlocks) (fun h => by rw [hr] at h; cases h)
  have hmeth' : T.vm.method? m = some meth := X.method'
  refine ⟨T.setFrames fs, ?_, .returned (some (.int 1)), hrun, hended, rfl, ⟨_, rfl⟩, hW, hframe⟩
  jvm_step X.here [X.here.top, hx, hb, hdg, hmeth', hr, ret, narrow_b1]
  (try refine ⟨rfl, ?_⟩); (try refine ⟨rfl, ?_⟩)
  first | (intro acts; rw [hret _ acts rfl rfl rfl]) | rw [hret _ _ rfl rfl rfl]
  exact Steps.refl _
/-- what holds at the law's entry: the machine, the code, the tables' words (any of lw_tbl by 'hts w (by decide +kernel)'), the script of L ints xs at the cell b, what the Statement gives of the start (any of its parts by flat_of_before) -/
def lw_At (p : Program) (s : State) (m : MethodId) (meth : Method) (c : Code) (b L : Nat) (xs : Nat → Int32) : Prop :=
  p.tables.exec = Jvm.exec ∧ c.code = code ∧ meth.sig.returnType = ret ∧ c.maxLocals = 4 ∧ s.vm.findClass R_law = some m.cls ∧ (∀ w ∈ lw_tbl, w.before #[Value.ref b] s = true) ∧ va_X b L xs s s.heap ∧ b < s.heap.size ∧ meth.locks = false ∧ (Jvm.Cond.and given_1 narrow_1).before #[Value.ref b] s = true
/-! THE JUDGEMENT Lw: the law's own frame, over a heap that holds the small store; the script's cell is 202, the objects are the cells 0 and 49 -/
def LwC (p : Program) (s : State) (m : MethodId) (meth : Method) (c : Code) (G : Gx) (L : Nat) (xs : Nat → Int32) : Prop := lw_At p s m meth c (adO G 202) L xs ∧ L ≤ 3072 ∧ Kx G s ∧ ∀ k, k < 65 → s.heap.size ≤ adO G k
def Lw (L : Nat) (xs : Nat → Int32) (pc : Nat) (ls st : List Value) (σ : St) : Prop :=
  ∀ (p : Program) (l : Launch) (e : Env) (s : State) (m : MethodId) (below : List Frame) (meth : Method) (c : Code) (G : Gx) (H : Heap) (locs : List Loc) (rl : Array Slot),
    LwC p s m meth c G L xs → va_P G.1 clsL (wsO G σ) H → va_S (fun q : Nat => s.heap.size ≤ q) s.heap H locs → lvO G rl 4 ls →
    W p l e room_1 s m #[Value.ref (adO G 202)] below meth c H locs 65 22150 (lw_Z below #[Value.ref (adO G 202)] s) (F0 m pc rl (st.map (cv G)))
section LR
variable {L : Nat} {xs : Nat → Int32} {pc : Nat} {ls ls' st : List Value} {σ : St}
theorem L_iadd {x y : Int32} (hd : decode code pc = .ok (.iadd, 1)) (h : Lw L xs (pc + 1) ls (.int (x + y) :: st) σ) : Lw L xs pc ls (.int y :: .int x :: st) σ := fun p l e s m b me c G H lo rl C P S Lc => lv_iadd C.1.1 C.1.2.1 hd (h p l e s m b me c G H lo rl C P S Lc)
theorem L_isub {x y : Int32} (hd : decode code pc = .ok (.isub, 1)) (h : Lw L xs (pc + 1) ls (.int (x - y) :: st) σ) : Lw L xs pc ls (.int y :: .int x :: st) σ := fun p l e s m b me c G H lo rl C P S Lc => lv_isub C.1.1 C.1.2.1 hd (h p l e s m b me c G H lo rl C P S Lc)
theorem L_iand {x y : Int32} (hd : decode code pc = .ok (.iand, 1)) (h : Lw L xs (pc + 1) ls (.int (x &&& y) :: st) σ) : Lw L xs pc ls (.int y :: .int x :: st) σ := fun p l e s m b me c G H lo rl C P S Lc => lv_iand C.1.1 C.1.2.1 hd (h p l e s m b me c G H lo rl C P S Lc)
theorem L_land {x y : Int64} (hd : decode code pc = .ok (.land, 1)) (h : Lw L xs (pc + 1) ls (.long (x &&& y) :: st) σ) : Lw L xs pc ls (.long y :: .long x :: st) σ := fun p l e s m b me c G H lo rl C P S Lc => lv_land C.1.1 C.1.2.1 hd (h p l e s m b me c G H lo rl C P S Lc)
theorem L_lor {x y : Int64} (hd : decode code pc = .ok (.lor, 1)) (h : Lw L xs (pc + 1) ls (.long (x ||| y) :: st) σ) : Lw L xs pc ls (.long y :: .long x :: st) σ := fun p l e s m b me c G H lo rl C P S Lc => lv_lor C.1.1 C.1.2.1 hd (h p l e s m b me c G H lo rl C P S Lc)
theorem L_lshl {x : Int64} {y : Int32} (hd : decode code pc = .ok (.lshl, 1)) (h : Lw L xs (pc + 1) ls (.long (x <<< (y.toInt64 &&& 63)) :: st) σ) : Lw L xs pc ls (.int y :: .long x :: st) σ := fun p l e s m b me c G H lo rl C P S Lc => lv_lshl C.1.1 C.1.2.1 hd rfl (h p l e s m b me c G H lo rl C P S Lc)
theorem L_i2l {x : Int32} (hd : decode code pc = .ok (.i2l, 1)) (h : Lw L xs (pc + 1) ls (.long x.toInt64 :: st) σ) : Lw L xs pc ls (.int x :: st) σ := fun p l e s m b me c G H lo rl C P S Lc => lv_i2l C.1.1 C.1.2.1 hd rfl (h p l e s m b me c G H lo rl C P S Lc)
theorem L_lcmp {x y : Int64} (hd : decode code pc = .ok (.lcmp, 1)) (h : Lw L xs (pc + 1) ls (.int (lg_cmp x y) :: st) σ) : Lw L xs pc ls (.long y :: .long x :: st) σ := fun p l e s m b me c G H lo rl C P S Lc => W.lcmp C.1.1 C.1.2.1 hd (h p l e s m b me c G H lo rl C P S Lc)
theorem L_iconst {n : Int} {v : Int32} (hd : decode code pc = .ok (.iconst n, 1)) (hv : Int32.ofInt n = v) (h : Lw L xs (pc + 1) ls (.int v :: st) σ) : Lw L xs pc ls st σ := fun p l e s m b me c G H lo rl C P S Lc => lv_iconst C.1.1 C.1.2.1 hd hv (h p l e s m b me c G H lo rl C P S Lc)
theorem L_bipush {n : Int} {v : Int32} (hd : decode code pc = .ok (.bipush n, 2)) (hv : (Int8.ofInt n).toInt32 = v) (h : Lw L xs (pc + 2) ls (.int v :: st) σ) : Lw L xs pc ls st σ := fun p l e s m b me c G H lo rl C P S Lc => lv_bipush C.1.1 C.1.2.1 hd hv (h p l e s m b me c G H lo rl C P S Lc)
theorem L_ldc2 {i : Nat} {v : Int64} (hd : decode code pc = .ok (.ldc2_w i, 3)) (hw : Cond.constantLong R_law i v ∈ Tg) (h : Lw L xs (pc + 3) ls (.long v :: st) σ) : Lw L xs pc ls st σ := fun p l e s m b me c G H lo rl C P S Lc => lv_ldc2 C.1.1 C.1.2.1 C.1.2.2.2.2.1 (C.1.2.2.2.2.2.1 _ (List.mem_filter.mp hw).1) hd (h p l e s m b me c G H lo rl C P S Lc)
theorem L_iload_n {k : Fin 4} {x : Int32} (hd : decode code pc = .ok (.iload_n k, 1)) (hl : ls[(k : Nat)]? = some (.int x)) (h : Lw L xs (pc + 1) ls (.int x :: st) σ) : Lw L xs pc ls st σ := fun p l e s m b me c G H lo rl C P S Lc => lv_iload_n C.1.1 C.1.2.1 hd rfl (Lc.2.2 _ _ hl rfl) (h p l e s m b me c G H lo rl C P S Lc)
theorem L_aload_n {k : Fin 4} {x : Nat} (hd : decode code pc = .ok (.aload_n k, 1)) (hl : ls[(k : Nat)]? = some (.ref x)) (h9 : x ≠ 999) (h : Lw L xs (pc + 1) ls (.ref x :: st) σ) : Lw L xs pc ls st σ := by
  intro p l e s m b me c G H lo rl C P S Lc
  have q := Lc.2.2 _ _ hl rfl
  have h' := h p l e s m b me c G H lo rl C P S Lc
  rw [List.map_cons] at h'
  have ec : cv G (.ref x) = .ref (adO G x) := if_neg h9
  rw [ec] at q h'
  exact lv_aload_n C.1.1 C.1.2.1 hd rfl q h'
theorem L_istore_n {k : Fin 4} {x : Int32} (hd : decode code pc = .ok (.istore_n k, 1)) (hl : lset1 ls (k : Nat) (.int x) = ls') (h : Lw L xs (pc + 1) ls' st σ) : Lw L xs pc ls (.int x :: st) σ := fun p l e s m b me c G H lo rl C P S Lc => lv_istore_n C.1.1 C.1.2.1 hd rfl (lvO_has Lc) k.2 rfl (fun r2 h2 => h p l e s m b me c G H lo r2 C P S (lvO_of1 (rl := rl) (v := .int x) h2 hl))
theorem L_iinc {k : Nat} {n : Int} {x v : Int32} (hd : decode code pc = .ok (.iinc k n, 3)) (hx : ls[k]? = some (.int x)) (hv : x + Int32.ofInt n = v) (hn : k < 4) (hl : lset1 ls k (.int v) = ls') (h : Lw L xs (pc + 3) ls' st σ) : Lw L xs pc ls st σ := by
  intro p l e s m b me c G H lo rl C P S Lc
  obtain ⟨q, hq⟩ := List.getElem?_of_mem (prO_in (G := G) hx rfl)
  exact lv_iinc C.1.1 C.1.2.1 hd (lvO_has Lc) hq hv hn rfl (fun r2 h2 => h p l e s m b me c G H lo r2 C P S (lvO_of1 (rl := rl) (v := .int v) h2 hl))
theorem L_if_eq {x : Int32} {off : Int} (tgt : Nat) (hd : decode code pc = .ok (.ifCond .eq off, 3)) (ht : (pc : Int) + off = (tgt : Int)) (h1 : x = 0 → Lw L xs tgt ls st σ) (h2 : ¬ x = 0 → Lw L xs (pc + 3) ls st σ) : Lw L xs pc ls (.int x :: st) σ := fun p l e s m b me c G H lo rl C P S Lc => lv_if_eq C.1.1 C.1.2.1 hd ht (fun z => h1 z p l e s m b me c G H lo rl C P S Lc) (fun z => h2 z p l e s m b me c G H lo rl C P S Lc)
theorem L_icmp_eq {x y : Int32} {off : Int} (tgt : Nat) (hd : decode code pc = .ok (.if_icmp .eq off, 3)) (ht : (pc : Int) + off = (tgt : Int)) (h1 : x = y → Lw L xs tgt ls st σ) (h2 : ¬ x = y → Lw L xs (pc + 3) ls st σ) : Lw L xs pc ls (.int y :: .int x :: st) σ := fun p l e s m b me c G H lo rl C P S Lc => lv_icmp_eq C.1.1 C.1.2.1 hd ht (fun z => h1 z p l e s m b me c G H lo rl C P S Lc) (fun z => h2 z p l e s m b me c G H lo rl C P S Lc)
theorem L_icmp_gt {x y : Int32} {off : Int} (tgt : Nat) (hd : decode code pc = .ok (.if_icmp .gt off, 3)) (ht : (pc : Int) + off = (tgt : Int)) (h1 : y < x → Lw L xs tgt ls st σ) (h2 : ¬ y < x → Lw L xs (pc + 3) ls st σ) : Lw L xs pc ls (.int y :: .int x :: st) σ := fun p l e s m b me c G H lo rl C P S Lc => lv_icmp_gt C.1.1 C.1.2.1 hd ht (fun z => h1 z p l e s m b me c G H lo rl C P S Lc) (fun z => h2 z p l e s m b me c G H lo rl C P S Lc)
theorem L_goto {off : Int} (tgt : Nat) (hd : decode code pc = .ok (.goto off, 3)) (ht : (pc : Int) + off = (tgt : Int)) (h : Lw L xs tgt ls st σ) : Lw L xs pc ls st σ := fun p l e s m b me c G H lo rl C P S Lc => lv_goto C.1.1 C.1.2.1 hd ht (h p l e s m b me c G H lo rl C P S Lc)
theorem L_tsw {x : Int32} {d lo hi : Int} {offs : Array Int} {len : Nat} (tg : List (Int32 × Nat)) (dt : Nat) (hd : decode code pc = .ok (.tableswitch d lo hi offs, len)) (ht : (pc : Int) + d = (dt : Int)) (hhi : hi + 1 = lo + (tg.length : Int)) (hv : tg.map (fun q => q.1.toInt) = (List.range tg.length).map (fun j : Nat => lo + (j : Int))) (ho : offs.toList.map (fun o => (pc : Int) + o) = tg.map (fun q => (q.2 : Int)))
    (h1 : ∀ q ∈ tg, x = q.1 → Lw L xs q.2 ls st σ) (h2 : Lw L xs dt ls st σ) : Lw L xs pc ls (.int x :: st) σ := by
  intro p l e s m b me c G H lo' rl C P S Lc
  have hval : ∀ (j : Nat) (hj : j < tg.length), (tg[j]).1.toInt = lo + (j : Int) := by
    intro j hj
    have e1 := congrArg (fun l => l[j]?) hv
    simp only [List.getElem?_map, List.getElem?_eq_getElem hj, List.getElem?_range hj] at e1
    exact Option.some.inj e1
  by_cases hx : x.toInt < lo ∨ hi < x.toInt
  · exact lv_tableOut C.1.1 C.1.2.1 hd hx ht (h2 p l e s m b me c G H lo' rl C P S Lc)
  · have hn : ¬ x.toInt < lo := fun z => hx (Or.inl z)
    have hm : ¬ hi < x.toInt := fun z => hx (Or.inr z)
    obtain ⟨j, ej⟩ : ∃ j : Nat, (j : Int) = x.toInt - lo := ⟨(x.toInt - lo).toNat, by omega⟩
    have hj : j < tg.length := by omega
    have e0 : x = (tg[j]).1 := Int32.toInt_inj.mp (by rw [hval j hj]; omega)
    have hlen : offs.toList.length = tg.length := by have := congrArg List.length ho; simpa using this
    have hj2 : j < offs.toList.length := by omega
    have e1 : (offs.toList.map (fun o => (pc : Int) + o))[j]? = some ((tg[j]).2 : Int) := by rw [ho, List.getElem?_map, List.getElem?_eq_getElem hj]; rfl
    rw [List.getElem?_map, List.getElem?_eq_getElem hj2] at e1
    have e2 : (pc : Int) + offs.toList[j] = ((tg[j]).2 : Int) := Option.some.inj e1
    refine lv_tableIn (off := offs.toList[j]) C.1.1 C.1.2.1 hd hn hm ?_ e2 (h1 _ (List.getElem_mem hj) e0 p l e s m b me c G H lo' rl C P S Lc)
    rw [← ej, show ((j : Int)).toNat = j by omega, ← Array.getElem?_toList, List.getElem?_eq_getElem hj2]
theorem L_sld {i : Int32} (hd : decode code pc = .ok (.iaload, 1)) (hi : vp_in i L) (h : Lw L xs (pc + 1) ls (.int (xs i.toNatClampNeg) :: st) σ) : Lw L xs pc ls (.int i :: .ref 202 :: st) σ := fun p l e s m b me c G H lo rl C P S Lc =>
  va_sld C.1.1 C.1.2.1 C.1.2.2.2.2.2.2.1 C.1.2.2.2.2.2.2.2.1 (Nat.not_le.mpr C.1.2.2.2.2.2.2.2.1) S hi hd (h p l e s m b me c G H lo rl C P S Lc)
theorem L_slen (hd : decode code pc = .ok (.arraylength, 1)) (h : Lw L xs (pc + 1) ls (.int (nI L) :: st) σ) : Lw L xs pc ls (.ref 202 :: st) σ := fun p l e s m b me c G H lo rl C P S Lc =>
  va_slen C.1.1 C.1.2.1 C.1.2.2.2.2.2.2.1 C.1.2.2.2.2.2.2.2.1 (Nat.not_le.mpr C.1.2.2.2.2.2.2.2.1) S hd (h p l e s m b me c G H lo rl C P S Lc)
/-- the script's k-th number of this call -/
abbrev lsL (i : Nat) : List Value := [.ref 202, .ref 0, .ref 49, .int (nI i)]
theorem L_arg {i k : Nat} {n : Int} (h0 : decode code pc = .ok (.aload_n 0, 1)) (h1 : decode code (pc + 1) = .ok (.iload_n 3, 1)) (h2 : decode code (pc + 2) = .ok (.iconst n, 1)) (h3 : decode code (pc + 3) = .ok (.iadd, 1)) (h4 : decode code (pc + 4) = .ok (.iaload, 1)) (hn : Int32.ofInt n = nI k) (hL : L ≤ 3072) (hk : i + k < L) (h : Lw L xs (pc + 5) (lsL i) (.int (xs (i + k)) :: st) σ) : Lw L xs pc (lsL i) st σ := by
  refine L_aload_n h0 rfl (by decide) (L_iload_n h1 rfl (L_iconst h2 hn (L_iadd h3 ?_)))
  rw [nI_add]
  refine L_sld h4 (in_I hk (by omega)) ?_
  rw [nI_clamp (by omega)]
  exact h
/-- true -/
theorem L_end (h0 : decode code pc = .ok (.iconst 1, 1)) (h1 : decode code (pc + 1) = .ok (.ireturn, 1)) : Lw L xs pc ls [] σ := fun p l e s m b me c G H lo rl C P S Lc => by
  refine lv_iconst (v := 1) C.1.1 C.1.2.1 h0 (by decide) ?_
  refine va_forget (fun q hq => S.2.2 q hq) ?_
  refine W.widen (k := 600000) (n := 7302250) (Nat.le_of_ble_eq_true rfl) (Nat.le_of_ble_eq_true rfl) ?_
  exact lw_ret C.1.1 C.1.2.1 C.1.2.2.1 C.1.2.2.2.2.2.2.2.2.1 h1
theorem Kx.to2 {G : Gx} {s U : State} {H : Heap} {locs : List Loc} (h : Kx G s) (hA : ∀ k, k < 65 → s.heap.size ≤ adO G k) (hS : va_S (fun q : Nat => s.heap.size ≤ q) s.heap H locs) (hU : U.heap = H) (hW : s.WarmedH U.vm) : Kx G U :=
  h.to (locs := []) ⟨hS.1, fun q h1 h2 => hS.2.1 q h1 (Nat.not_le.mpr h1), fun _ z => by cases z⟩ hU hW
/-- a call of the class or of the reference -/
theorem L_callV {y : MethodName} {cc' : ByteArray} {nL' n idx k ci : Nat} {rt' : Option FieldType} {R' : Room} {As rest s0 : List Value} {Q' : Option Value → St → Prop} {Cn : vw_C} (hd : decode code pc = .ok (.invokevirtual idx, 3)) (hC : ClO R_law idx y cc' nL' rt' n) (hi : Cond.instanceMethod y ∈ Tg) (hk : kd k = ci) (h8c : ci < 8) (hcl : clsL[ci]? = some Cn) (hs : Cond.selects Cn.1 y y ∈ Tg) (hR : RmO R' room_1 nL') (hn : As.length = n) (h0 : As.reverse ++ .ref k :: rest = s0) (h8 : (rest.map fun v => v.category).sum ≤ 8)
    (hM : Mt y cc' nL' rt' R' (.ref k :: As) σ Q') (h : ∀ r σ1, Q' r σ1 → Lw L xs (pc + 3) ls (r.toList ++ rest) σ1) : Lw L xs pc ls s0 σ := by
  intro p l e s m b me c G H lo rl C P S Lc
  subst h0
  obtain ⟨w1, w2, w3, w4, w5, w6⟩ := hC
  have hT : ∀ w ∈ Tg, w.before #[Value.ref (adO G 202)] s = true := fun w hw => C.1.2.2.2.2.2.1 w (List.mem_filter.mp hw).1
  have hM1 := hM l G
  simp only [List.map_cons, cv_cell (G := G) (k := k) (by omega)] at hM1
  have K := C.2.2.1
  have hA : ∀ q, Aw G q → s.heap.size ≤ q := fun q ⟨j, hj, ej⟩ => by rw [ej]; exact C.2.2.2 j hj
  have hr := va_runV (p := p) (l := l) (e := e) (R := room_1) (s := s) (m := m) (args := #[Value.ref (adO G 202)]) (below := b) (meth := me) (c := c) (H := H) (locs := lo) (cells := 65) (slots := 22150) (g := F0 m pc rl ((As.reverse ++ .ref k :: rest).map (cv G))) (C := Cn.1) (b := adO G k) (As := As.map (cv G)) (rest := rest.map (cv G)) (Ts := Tg) (own := R_law) (nL := 4) (cc := code) (n := n) ⟨C.1.1, C.1.2.1, C.1.2.2.2.1, C.1.2.2.2.2.1, hT⟩ hM1 ⟨⟨hR.1, hR.2.1, hR.2.2.1, hR.2.2.2, fun w hw => (List.mem_cons.mp hw).elim (fun z => by rw [z]; exact tg_all hT _ w3) (fun z => tg_all hT w z), List.mem_cons_self, hT _ w3, hT _ w2, ⟨w4, w5⟩, fun sig z => (by rw [z] at w6; exact (Option.some.inj w6).symm), hT _ w1⟩, hT _ hi, hT _ hs⟩
    ⟨fun a' U g mk q => ⟨q.1, q.2.1, q.2.2.blind g mk a'⟩, va_recv K.1 P (ci := ci) (q0 := k) hcl (wsO_obj hk h8c), fun U hU hW => ⟨rfl, by rw [hU]; exact P, K.to2 C.2.2.2 S hU hW⟩⟩ rfl (by simpa using hn) Lc.1 (by simp [cv_cell (G := G) (k := k) (by omega)]) (cat_le h8) hd ⟨Nat.le_of_ble_eq_true rfl, Nat.le_of_ble_eq_true rfl⟩
  intro T hT1 X
  obtain ⟨v, st₀, t, T', L1, h0, X', hL, e1, e2, ⟨⟨r, σ1, hv, hq, hP⟩, hz, hk1⟩, go⟩ := hr T hT1 X
  cases hv
  rw [h0] at hz hk1
  have S1 : va_S (fun q : Nat => s.heap.size ≤ q) s.heap T'.heap (lo ++ L1) := ⟨Nat.le_trans S.1 (by rw [e1]; exact hz), fun q g1 g2 => by rw [e1, hk1 q (Nat.lt_of_lt_of_le g1 S.1) (fun z => g2 (hA q z))]; exact S.2.1 q g1 g2, fun q hq => by
      rcases List.mem_append.mp hq with z | z
      · exact S.2.2 q z
      · exact hA _ (hL q z)⟩
  have h' := h r σ1 hq p l e s m b me c G T'.heap (lo ++ L1) rl C (by rw [e1]; exact hP) S1 Lc
  have es : (r.toList ++ rest).map (cv G) = (r.map (cv G)).toList ++ rest.map (cv G) := by cases r <;> simp
  rw [es] at h'
  obtain ⟨t2, a2, b2⟩ := h' T' rfl X'
  exact ⟨t2, go t2 a2, b2⟩
end LR
/-- whether the script's number isn't 0, as 1 or 0 -/
theorem L_ifnz {L : Nat} {xs : Nat → Int32} {pc : Nat} {ls st : List Value} {σ : St} {x : Int32} (h0 : decode code pc = .ok (.ifCond .eq 7, 3)) (h1 : decode code (pc + 3) = .ok (.iconst 1, 1)) (h2 : decode code (pc + 4) = .ok (.goto 4, 3)) (h3 : decode code (pc + 7) = .ok (.iconst 0, 1)) (h : Lw L xs (pc + 8) ls (.int (bI (nz x)) :: st) σ) : Lw L xs pc ls (.int x :: st) σ := by
  refine L_if_eq (pc + 7) h0 (by omega) (fun z => ?_) (fun z => ?_)
  · refine L_iconst (v := 0) h3 (by decide) ?_
    have e : nz x = false := decide_eq_false (fun y => y z)
    rw [e] at h
    exact h
  · refine L_iconst (v := 1) h1 (by decide) (L_goto (pc + 8) h2 (by omega) ?_)
    have e : nz x = true := decide_eq_true z
    rw [e] at h
    exact h
