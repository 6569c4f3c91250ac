/-! THE JUDGEMENT Ev: a method of the class, of the reference or of the JDK stands at pc with locals ls, operand stack st, over a heap that holds the small store σ; it comes to its end with an answer and a store of which Q holds. References are the numbers of cells; 999 is null; a local that isn't known is 'un'. -/
def un : Value := .retAddr 0
def usd : Value → Bool
  | .retAddr _ => false
  | _ => true
def cv (G : Gx) : Value → Value
  | .ref k => if k = 999 then .null else .ref (adO G k)
  | v => v
theorem cv_cat (G : Gx) (v : Value) : (cv G v).category = v.category := by
  cases v with
  | ref k => by_cases h : k = 999 <;> simp [cv, h, Value.category]
  | _ => rfl
/-- the words that every contract takes: those of the tables that stay true -/
def Tg : List Cond := lw_tbl.filter goodWord
theorem tg_in {w : Cond} (h : w ∈ lw_tbl) (hg : goodWord w = true) : w ∈ Tg := List.mem_filter.mpr ⟨h, hg⟩
theorem tg_tab {w : Cond} (h : w ∈ tables_1) (hg : goodWord w = true) : w ∈ Tg := tg_in (List.mem_append_right _ h) hg
theorem tg_good (w : Cond) (h : w ∈ Tg) : (w.onTables && w.keeps) = true ∨ ∃ ty, w = .arrayClass ty := good_of_word (List.mem_filter.mp h).2
def aboveL : List Int32 := [-1, 0, 0, 0, 1, 2]
/-- the words' texts, their places in the pool of WallDown$Teller, their bytes -/
def stL : List (Nat × String × List Int32) := [(85, "key", [107, 101, 121]), (87, "rotten", [114, 111, 116, 116, 101, 110]), (89, "through", [116, 104, 114, 111, 117, 103, 104]), (91, "carved", [99, 97, 114, 118, 101, 100]), (93, "false", [102, 97, 108, 115, 101]), (95, "stone", [115, 116, 111, 110, 101]), (108, "high", [104, 105, 103, 104]), (110, "price", [112, 114, 105, 99, 101]), (65, "beam", [98, 101, 97, 109]), (116, "on", [111, 110]), (118, "off", [111, 102, 102]), (70, "wedge", [119, 101, 100, 103, 101]), (75, "slack", [115, 108, 97, 99, 107]), (80, "pull", [112, 117, 108, 108])]
def stN : Nat := 14
def stLen : List Nat := stL.map (fun q => q.2.2.length)
def stByt : List (List Int32) := stL.map (fun q => q.2.2)
/-- what stays true of the tables and of what lies outside the cells -/
def Kx (G : Gx) (U : State) : Prop :=
  va_K G.1 clsL (tysO G) U ∧ (∀ i j : Nat, i < 65 → j < 65 → adO G i = adO G j → i = j) ∧ va_Nw (.methodLinkNest "WallDown$Tape" 53 yX6_isWithin "WallDown") U ∧
  va_Z "WallDown" "ABOVE" "[I" (.ref (adO G 200)) (Aw G) U U.heap ∧ va_T .int (adO G 200) 6 (fun j => .int (aboveL.getD j 0)) (Aw G) U U.heap ∧
  va_Z "java/lang/String" "COMPACT_STRINGS" "Z" (.int 1) (Aw G) U U.heap ∧
  vk_S stN stLen stByt (fun i => adO G (300 + i)) (fun i => adO G (400 + i)) (Aw G) U U.heap ∧
  (va_Z "jdk/internal/util/Preconditions" "SIOOBE_FORMATTER" "Ljava/util/function/BiFunction;" .null (Aw G) U U.heap ∨ va_Z "jdk/internal/util/Preconditions" "SIOOBE_FORMATTER" "Ljava/util/function/BiFunction;" (.ref (adO G 201)) (Aw G) U U.heap) ∧
  (∀ i : Nat, i < stN → vk_R "WallDown$Teller" (stL.getD i (0, "", [])).1 (stL.getD i (0, "", [])).2.1 (adO G (300 + i)) U)
theorem Kx.to {G : Gx} {s U : State} {H : Heap} {locs : List Loc} (h : Kx G s) (hS : va_S (Aw G) s.heap H locs) (hU : U.heap = H) (hW : s.WarmedH U.vm) : Kx G U := by
  obtain ⟨h1, h2, h3, h4, h5, h6, h7, h9, h8⟩ := h
  have hq : ∀ a : Nat, a < s.heap.size → ¬ Aw G a → U.heap[a]? = s.heap[a]? := fun a ha hA => by rw [hU]; exact hS.2.1 a ha hA
  have al := hW.alike
  exact ⟨h1.moved al, h2, va_Nw.warmM hW h3, (h4.moved al).kept hq, (h5.moved al).kept hq, (h6.moved al).kept hq, (h7.moved al).kept hq, h9.elim (fun z => Or.inl ((z.moved al).kept hq)) (fun z => Or.inr ((z.moved al).kept hq)), fun i hi => (h8 i hi).warm hW⟩
theorem Kx.blind {G : Gx} {U : State} (h : Kx G U) (g : JFrame) (mk : MethodId) (a : Array Value) : Kx G (U.calling g mk a) := by
  obtain ⟨h1, h2, h3, h4, h5, h6, h7, h9, h8⟩ := h
  have al : U.vm.Alike (U.calling g mk a).vm := Vm.Alike.refl U.vm
  exact ⟨va_K.moved al h1, h2, va_Nw.same rfl rfl h3, h4.moved al, h5.moved al, h6.moved al, h7.moved al, h9.elim (fun z => Or.inl (z.moved al)) (fun z => Or.inr (z.moved al)), fun i hi => (h8 i hi).same rfl⟩
theorem Kx.D {G : Gx} {U : State} (h : Kx G U) (σ : St) : va_D (Aw G) (wsO G σ) := by
  refine ⟨fun i j p q hp hq e => ?_, fun k q hk => ?_⟩
  · have hi : i < 65 := by have := (List.getElem?_eq_some_iff.mp hp).1; simpa [wsO] using this
    have hj : j < 65 := by have := (List.getElem?_eq_some_iff.mp hq).1; simpa [wsO] using this
    rw [wsO_at hi] at hp
    rw [wsO_at hj] at hq
    cases hp; cases hq
    exact h.2.1 i j hi hj e
  · have hi : k < 65 := by have := (List.getElem?_eq_some_iff.mp hk).1; simpa [wsO] using this
    rw [wsO_at hi] at hk
    cases hk
    exact ⟨k, hi, rfl⟩
/-- the method that stands -/
def CxO (p : Program) (s : State) (m : MethodId) (args : Array Value) (meth : Method) (c : Code) (cc : ByteArray) (nL : Nat) (rt : Option FieldType) (own : String) : Prop :=
  p.tables.exec = Jvm.exec ∧ c.code = cc ∧ meth.sig.returnType = rt ∧ c.maxLocals = nL ∧ s.vm.findClass own = some m.cls ∧ (∀ w ∈ Tg, w.before args s = true) ∧ meth.locks = false
/-- the locals -/
def lvO (G : Gx) (rl : Array Slot) (nL : Nat) (ls : List Value) : Prop := rl.size = nL ∧ lv_wf rl ∧ ∀ (k : Nat) (v : Value), ls[k]? = some v → usd v = true → rl[k]? = some (.val (cv G v))
/-- a method's end -/
def QcO (G : Gx) (Q : Option Value → St → Prop) : Array Value → State → Outcome → State → Prop := fun _ st o t => (∃ (r : Option Value) (σ : St), o = .returned (r.map (cv G)) ∧ Q r σ ∧ va_P G.1 clsL (wsO G σ) t.heap) ∧ va_F (Aw G) st t
def Ev (cc : ByteArray) (nL : Nat) (rt : Option FieldType) (own : String) (R : Room) (pc : Nat) (ls st : List Value) (σ : St) (Q : Option Value → St → Prop) : Prop :=
  ∀ (p : Program) (l : Launch) (e : Env) (s : State) (m : MethodId) (args : Array Value) (below : List Frame) (meth : Method) (c : Code) (G : Gx) (H : Heap) (locs : List Loc) (rl : Array Slot),
    CxO p s m args meth c cc nL rt own → Kx G s → va_P G.1 clsL (wsO G σ) H → va_S (Aw G) s.heap H locs → lvO G rl nL ls →
    W p l e R s m args below meth c H locs 0 0 (MQ below (QcO G Q) args s 0 0 (Aw G)) (F0 m pc rl (st.map (cv G)))
/-- a method's contract, of the class or of the JDK -/
def Mt (y : MethodName) (cc : ByteArray) (nL : Nat) (rt : Option FieldType) (R : Room) (av : List Value) (σ : St) (Q : Option Value → St → Prop) : Prop :=
  ∀ (l : Launch) (G : Gx), Met l y (.code y cc nL rt :: Tg) R (va_Pc (av.map (cv G)) (fun U => va_P G.1 clsL (wsO G σ) U.heap ∧ Kx G U)) (QcO G Q) 0 0 (Aw G)
/-- the locals at the entry -/
def argL : List Value → List Value
  | [] => []
  | v :: vs => if v.category = 2 then v :: un :: argL vs else v :: argL vs
theorem argL_at (G : Gx) : ∀ (vs : List Value) (o k : Nat) (v : Value), (argL vs)[k]? = some v → usd v = true → (o + k, cv G v) ∈ lv_args o (vs.map (cv G)) := by
  intro vs
  induction vs with
  | nil => intro o k v h; simp [argL] at h
  | cons w vs ih =>
    intro o k v h hu
    unfold argL at h
    simp only [List.map_cons, lv_args, cv_cat]
    by_cases hc : w.category = 2
    · rw [if_pos hc] at h ⊢
      match k, h with
      | 0, h => cases h; exact List.mem_cons_self
      | 1, h => cases h; cases hu
      | k + 2, h =>
        have h1 := ih (o + 2) k v (by simpa using h) hu
        rw [show o + (k + 2) = o + 2 + k by omega]
        exact List.mem_cons_of_mem _ h1
    · rw [if_neg hc] at h ⊢
      match k, h with
      | 0, h => cases h; exact List.mem_cons_self
      | k + 1, h =>
        have h1 := ih (o + 1) k v (by simpa using h) hu
        rw [show o + (k + 1) = o + 1 + k by omega]
        exact List.mem_cons_of_mem _ h1
theorem argL_len : ∀ (G : Gx) (vs : List Value), (lg_sl (vs.map (cv G))).length = (argL vs).length := by
  intro G vs
  induction vs with
  | nil => rfl
  | cons w vs ih =>
    simp only [lg_sl, List.map_cons, List.flatMap_cons, List.length_append, cv_cat] at ih ⊢
    unfold argL
    by_cases hc : w.category = 2
    · rw [if_pos hc, if_pos hc, ih]; simp; omega
    · rw [if_neg hc, if_neg hc, ih]; simp; omega
theorem lvO_entry (G : Gx) (av : List Value) {n k : Nat} {ls : List Value} (hl : argL av ++ List.replicate k un = ls) (hn : (argL av).length ≤ n) :
    lvO G ((lg_sl (av.map (cv G)) ++ List.replicate (n - (lg_sl (av.map (cv G))).length) Slot.unset).toArray) n ls := by
  have h := lv_entry (av.map (cv G)) (n := n) (by rw [argL_len]; exact hn)
  refine ⟨h.1, h.2.1, fun i v hi hu => ?_⟩
  subst hl
  rw [List.getElem?_append] at hi
  split at hi
  · have h1 := argL_at G av 0 i v hi hu
    rw [Nat.zero_add] at h1
    exact h.2.2 _ h1
  · rw [List.getElem?_replicate] at hi
    split at hi
    · cases hi; cases hu
    · cases hi
theorem Mt.of {y : MethodName} {cc : ByteArray} {nL k : Nat} {rt : Option FieldType} {R : Room} {av ls : List Value} {σ : St} {Q : Option Value → St → Prop} (hy : plainName y.cls = true) (hl : argL av ++ List.replicate k un = ls) (hn : (argL av).length ≤ nL)
    (h : Ev cc nL rt y.cls R 0 ls [] σ Q) : Mt y cc nL rt R av σ Q := by
  intro l G
  refine Met.ofW (cc := cc) (maxL := nL) (ret := rt) hy rfl ?_
  intro p e s m args below meth c s₁ B hml hv
  obtain ⟨rfl, hP, hK⟩ := hv
  have hts := atoms_spec (ws := .code y cc nL rt :: Tg) B.pre
  have hown : s.vm.findClass y.cls = some m.cls := findClass_of_methodNamed B.named
  rw [lg_entry_eq]
  exact h p l e s m _ below meth c G s.heap [] _ ⟨B.exec, B.bytes, B.returns, hml, hown, fun w hw => hts w (List.mem_cons_of_mem _ hw), B.notSynchronized⟩ hK hP va_S.rf (lvO_entry G av hl hn)
/-- storing into a local -/
def inv1 (ls : List Value) : Nat → List Value
  | 0 => ls
  | j + 1 => match ls[j]? with
    | some (.long _) => ls.set j un
    | some (.double _) => ls.set j un
    | _ => ls
def lset1 (ls : List Value) (i : Nat) (v : Value) : List Value := (inv1 ls i).set i v
def lset2 (ls : List Value) (i : Nat) (v : Value) : List Value := ((inv1 ls i).set i v).set (i + 1) un
def prO (G : Gx) (ls : List Value) : List (Nat × Value) := (List.range ls.length).filterMap (fun k => (ls[k]?).bind (fun v => if usd v then some (k, cv G v) else none))
theorem prO_in {G : Gx} {ls : List Value} {k : Nat} {v : Value} (h : ls[k]? = some v) (hu : usd v = true) : (k, cv G v) ∈ prO G ls := by
  refine List.mem_filterMap.mpr ⟨k, List.mem_range.mpr (List.getElem?_eq_some_iff.mp h).1, ?_⟩
  rw [h]
  simp [hu]
theorem lvO_has {G : Gx} {rl : Array Slot} {nL : Nat} {ls : List Value} (h : lvO G rl nL ls) : lv_has rl nL (prO G ls) := by
  refine ⟨h.1, h.2.1, fun q hq => ?_⟩
  obtain ⟨k, -, hk⟩ := List.mem_filterMap.mp hq
  cases hv : ls[k]? with
  | none => rw [hv] at hk; cases hk
  | some v =>
    rw [hv] at hk
    simp only [Option.bind_some] at hk
    split at hk
    · next hu => cases hk; exact h.2.2 k v hv hu
    · cases hk
theorem inv1_get {ls : List Value} {i k : Nat} {w : Value} (h : (inv1 ls i)[k]? = some w) (hu : usd w = true) : ls[k]? = some w ∧ ¬ (k + 1 = i ∧ w.category = 2) := by
  cases i with
  | zero => exact ⟨h, fun z => by omega⟩
  | succ j =>
    have key : ∀ (x : Value), ls[j]? = some x → x.category = 2 → inv1 ls (j + 1) = ls.set j un := by
      intro x hx hc
      cases x <;> first | (simp [Value.category] at hc; done) | simp [inv1, hx]
    by_cases hj : ∃ x, ls[j]? = some x ∧ x.category = 2
    · obtain ⟨x, hx, hc⟩ := hj
      rw [key x hx hc, List.getElem?_set] at h
      by_cases e : j = k
      · subst e
        rw [if_pos rfl] at h
        split at h
        · cases h; cases hu
        · cases h
      · rw [if_neg e] at h
        exact ⟨h, fun z => e (by omega)⟩
    · have e : inv1 ls (j + 1) = ls := by
        cases hx : ls[j]? with
        | none => simp [inv1, hx]
        | some x => cases x <;> first | (exact absurd ⟨_, hx, rfl⟩ hj) | simp [inv1, hx]
      rw [e] at h
      exact ⟨h, fun z => hj ⟨w, by rw [← show k = j by omega]; exact h, z.2⟩⟩
theorem lvO_set1 {G : Gx} {rl : Array Slot} {nL i : Nat} {ls ls' : List Value} {v : Value} (h : lvO G rl nL ls) (hi : i < nL) (hc : v.category = 1) (hl : lset1 ls i v = ls') :
    ∃ rl', storeLocals rl i (cv G v) = some rl' ∧ lvO G rl' nL ls' := by
  obtain ⟨rl', e, h1, h2, h3⟩ := lv_store1 (v := cv G v) (lvO_has h) hi (by rw [cv_cat]; exact hc)
  refine ⟨rl', e, h1, h2, fun k w hk hu => ?_⟩
  subst hl
  unfold lset1 at hk
  rw [List.getElem?_set] at hk
  by_cases ek : i = k
  · subst ek
    rw [if_pos rfl] at hk
    split at hk
    · cases hk; exact h3 (i, cv G v) List.mem_cons_self
    · cases hk
  · rw [if_neg ek] at hk
    obtain ⟨g1, g2⟩ := inv1_get hk hu
    refine h3 (k, cv G w) (List.mem_cons_of_mem _ (List.mem_filter.mpr ⟨prO_in g1 hu, ?_⟩))
    have n1 : (k == i) = false := by simp; exact fun z => ek z.symm
    simp only [n1, cv_cat, Bool.not_false, Bool.true_and, Bool.not_eq_true', Bool.and_eq_false_iff, beq_eq_false_iff_ne, ne_eq]
    by_cases z : k + 1 = i
    · exact Or.inr (fun y => g2 ⟨z, y⟩)
    · exact Or.inl z
theorem lvO_set2 {G : Gx} {rl : Array Slot} {nL i : Nat} {ls ls' : List Value} {v : Value} (h : lvO G rl nL ls) (hi : i + 1 < nL) (hc : v.category = 2) (hl : lset2 ls i v = ls') :
    ∃ rl', storeLocals rl i (cv G v) = some rl' ∧ lvO G rl' nL ls' := by
  obtain ⟨rl', e, h1, h2, h3⟩ := lv_store2 (v := cv G v) (lvO_has h) hi (by rw [cv_cat]; exact hc)
  refine ⟨rl', e, h1, h2, fun k w hk hu => ?_⟩
  subst hl
  unfold lset2 at hk
  rw [List.getElem?_set] at hk
  by_cases ek2 : i + 1 = k
  · rw [if_pos ek2] at hk
    split at hk
    · cases hk; cases hu
    · cases hk
  · rw [if_neg ek2, List.getElem?_set] at hk
    by_cases ek : i = k
    · subst ek
      rw [if_pos rfl] at hk
      split at hk
      · cases hk; exact h3 (i, cv G v) List.mem_cons_self
      · cases hk
    · rw [if_neg ek] at hk
      obtain ⟨g1, g2⟩ := inv1_get hk hu
      refine h3 (k, cv G w) (List.mem_cons_of_mem _ (List.mem_filter.mpr ⟨prO_in g1 hu, ?_⟩))
      have n1 : (k == i) = false := by simp; exact fun z => ek z.symm
      have n2 : (k == i + 1) = false := by simp; exact fun z => ek2 z.symm
      simp only [n1, n2, cv_cat, Bool.not_false, Bool.true_and, Bool.not_eq_true', Bool.and_eq_false_iff, beq_eq_false_iff_ne, ne_eq]
      by_cases z : k + 1 = i
      · exact Or.inr (fun y => g2 ⟨z, y⟩)
      · exact Or.inl z
