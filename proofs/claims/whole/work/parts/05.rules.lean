section ER
variable {cc : ByteArray} {nL : Nat} {rt : Option FieldType} {own : String} {R : Room} {pc : Nat} {ls ls' st : List Value} {σ : St} {Q : Option Value → St → Prop}
theorem E_iadd {x y : Int32} (hd : decode cc pc = .ok (.iadd, 1)) (h : Ev cc nL rt own R (pc + 1) ls (.int (x + y) :: st) σ Q) : Ev cc nL rt own R pc ls (.int y :: .int x :: st) σ Q := fun p l e s m a b me c G H lo rl C K P S L => lv_iadd C.1 C.2.1 hd (h p l e s m a b me c G H lo rl C K P S L)
theorem E_isub {x y : Int32} (hd : decode cc pc = .ok (.isub, 1)) (h : Ev cc nL rt own R (pc + 1) ls (.int (x - y) :: st) σ Q) : Ev cc nL rt own R pc ls (.int y :: .int x :: st) σ Q := fun p l e s m a b me c G H lo rl C K P S L => lv_isub C.1 C.2.1 hd (h p l e s m a b me c G H lo rl C K P S L)
theorem E_imul {x y : Int32} (hd : decode cc pc = .ok (.imul, 1)) (h : Ev cc nL rt own R (pc + 1) ls (.int (x * y) :: st) σ Q) : Ev cc nL rt own R pc ls (.int y :: .int x :: st) σ Q := fun p l e s m a b me c G H lo rl C K P S L => lv_imul C.1 C.2.1 hd (h p l e s m a b me c G H lo rl C K P S L)
theorem E_iand {x y : Int32} (hd : decode cc pc = .ok (.iand, 1)) (h : Ev cc nL rt own R (pc + 1) ls (.int (x &&& y) :: st) σ Q) : Ev cc nL rt own R pc ls (.int y :: .int x :: st) σ Q := fun p l e s m a b me c G H lo rl C K P S L => lv_iand C.1 C.2.1 hd (h p l e s m a b me c G H lo rl C K P S L)
theorem E_ior {x y : Int32} (hd : decode cc pc = .ok (.ior, 1)) (h : Ev cc nL rt own R (pc + 1) ls (.int (x ||| y) :: st) σ Q) : Ev cc nL rt own R pc ls (.int y :: .int x :: st) σ Q := fun p l e s m a b me c G H lo rl C K P S L => lv_ior C.1 C.2.1 hd (h p l e s m a b me c G H lo rl C K P S L)
theorem E_ixor {x y : Int32} (hd : decode cc pc = .ok (.ixor, 1)) (h : Ev cc nL rt own R (pc + 1) ls (.int (x ^^^ y) :: st) σ Q) : Ev cc nL rt own R pc ls (.int y :: .int x :: st) σ Q := fun p l e s m a b me c G H lo rl C K P S L => lv_ixor C.1 C.2.1 hd (h p l e s m a b me c G H lo rl C K P S L)
theorem E_ishl {x y : Int32} (hd : decode cc pc = .ok (.ishl, 1)) (h : Ev cc nL rt own R (pc + 1) ls (.int (x <<< (y &&& 31)) :: st) σ Q) : Ev cc nL rt own R pc ls (.int y :: .int x :: st) σ Q := fun p l e s m a b me c G H lo rl C K P S L => lv_ishl C.1 C.2.1 hd (h p l e s m a b me c G H lo rl C K P S L)
theorem E_ishr {x y : Int32} (hd : decode cc pc = .ok (.ishr, 1)) (h : Ev cc nL rt own R (pc + 1) ls (.int (x >>> (y &&& 31)) :: st) σ Q) : Ev cc nL rt own R pc ls (.int y :: .int x :: st) σ Q := fun p l e s m a b me c G H lo rl C K P S L => lv_ishr C.1 C.2.1 hd (h p l e s m a b me c G H lo rl C K P S L)
theorem E_idiv {x y : Int32} (hd : decode cc pc = .ok (.idiv, 1)) (hne : ¬ y = 0) (h : Ev cc nL rt own R (pc + 1) ls (.int (x / y) :: st) σ Q) : Ev cc nL rt own R pc ls (.int y :: .int x :: st) σ Q := fun p l e s m a b me c G H lo rl C K P S L => lv_idiv C.1 C.2.1 hd hne (h p l e s m a b me c G H lo rl C K P S L)
theorem E_ineg {x : Int32} (hd : decode cc pc = .ok (.ineg, 1)) (h : Ev cc nL rt own R (pc + 1) ls (.int (-x) :: st) σ Q) : Ev cc nL rt own R pc ls (.int x :: st) σ Q := fun p l e s m a b me c G H lo rl C K P S L => lv_ineg C.1 C.2.1 hd (h p l e s m a b me c G H lo rl C K P S L)
theorem E_ladd {x y : Int64} (hd : decode cc pc = .ok (.ladd, 1)) (h : Ev cc nL rt own R (pc + 1) ls (.long (x + y) :: st) σ Q) : Ev cc nL rt own R pc ls (.long y :: .long x :: st) σ Q := fun p l e s m a b me c G H lo rl C K P S L => lv_ladd C.1 C.2.1 hd (h p l e s m a b me c G H lo rl C K P S L)
theorem E_lsub {x y : Int64} (hd : decode cc pc = .ok (.lsub, 1)) (h : Ev cc nL rt own R (pc + 1) ls (.long (x - y) :: st) σ Q) : Ev cc nL rt own R pc ls (.long y :: .long x :: st) σ Q := fun p l e s m a b me c G H lo rl C K P S L => lv_lsub C.1 C.2.1 hd (h p l e s m a b me c G H lo rl C K P S L)
theorem E_lmul {x y : Int64} (hd : decode cc pc = .ok (.lmul, 1)) (h : Ev cc nL rt own R (pc + 1) ls (.long (x * y) :: st) σ Q) : Ev cc nL rt own R pc ls (.long y :: .long x :: st) σ Q := fun p l e s m a b me c G H lo rl C K P S L => lv_lmul C.1 C.2.1 hd (h p l e s m a b me c G H lo rl C K P S L)
theorem E_land {x y : Int64} (hd : decode cc pc = .ok (.land, 1)) (h : Ev cc nL rt own R (pc + 1) ls (.long (x &&& y) :: st) σ Q) : Ev cc nL rt own R pc ls (.long y :: .long x :: st) σ Q := fun p l e s m a b me c G H lo rl C K P S L => lv_land C.1 C.2.1 hd (h p l e s m a b me c G H lo rl C K P S L)
theorem E_lor {x y : Int64} (hd : decode cc pc = .ok (.lor, 1)) (h : Ev cc nL rt own R (pc + 1) ls (.long (x ||| y) :: st) σ Q) : Ev cc nL rt own R pc ls (.long y :: .long x :: st) σ Q := fun p l e s m a b me c G H lo rl C K P S L => lv_lor C.1 C.2.1 hd (h p l e s m a b me c G H lo rl C K P S L)
theorem E_lcmp {x y : Int64} (hd : decode cc pc = .ok (.lcmp, 1)) (h : Ev cc nL rt own R (pc + 1) ls (.int (lg_cmp x y) :: st) σ Q) : Ev cc nL rt own R pc ls (.long y :: .long x :: st) σ Q := fun p l e s m a b me c G H lo rl C K P S L => W.lcmp C.1 C.2.1 hd (h p l e s m a b me c G H lo rl C K P S L)
theorem E_lshl {x : Int64} {y : Int32} (hd : decode cc pc = .ok (.lshl, 1)) (h : Ev cc nL rt own R (pc + 1) ls (.long (x <<< (y.toInt64 &&& 63)) :: st) σ Q) : Ev cc nL rt own R pc ls (.int y :: .long x :: st) σ Q := fun p l e s m a b me c G H lo rl C K P S L => lv_lshl C.1 C.2.1 hd rfl (h p l e s m a b me c G H lo rl C K P S L)
theorem E_lshr {x : Int64} {y : Int32} (hd : decode cc pc = .ok (.lshr, 1)) (h : Ev cc nL rt own R (pc + 1) ls (.long (x >>> (y.toInt64 &&& 63)) :: st) σ Q) : Ev cc nL rt own R pc ls (.int y :: .long x :: st) σ Q := fun p l e s m a b me c G H lo rl C K P S L => lv_lshr C.1 C.2.1 hd rfl (h p l e s m a b me c G H lo rl C K P S L)
theorem E_i2l {x : Int32} (hd : decode cc pc = .ok (.i2l, 1)) (h : Ev cc nL rt own R (pc + 1) ls (.long x.toInt64 :: st) σ Q) : Ev cc nL rt own R pc ls (.int x :: st) σ Q := fun p l e s m a b me c G H lo rl C K P S L => lv_i2l C.1 C.2.1 hd rfl (h p l e s m a b me c G H lo rl C K P S L)
theorem E_l2i {x : Int64} (hd : decode cc pc = .ok (.l2i, 1)) (h : Ev cc nL rt own R (pc + 1) ls (.int x.toInt32 :: st) σ Q) : Ev cc nL rt own R pc ls (.long x :: st) σ Q := fun p l e s m a b me c G H lo rl C K P S L => lv_l2i C.1 C.2.1 hd rfl (h p l e s m a b me c G H lo rl C K P S L)
theorem E_i2c {x : Int32} (hd : decode cc pc = .ok (.i2c, 1)) (h : Ev cc nL rt own R (pc + 1) ls (.int (x.toUInt32 % 65536).toInt32 :: st) σ Q) : Ev cc nL rt own R pc ls (.int x :: st) σ Q := fun p l e s m a b me c G H lo rl C K P S L => lv_i2c C.1 C.2.1 hd rfl (h p l e s m a b me c G H lo rl C K P S L)
theorem E_iconst {n : Int} {v : Int32} (hd : decode cc pc = .ok (.iconst n, 1)) (hv : Int32.ofInt n = v) (h : Ev cc nL rt own R (pc + 1) ls (.int v :: st) σ Q) : Ev cc nL rt own R pc ls st σ Q := fun p l e s m a b me c G H lo rl C K P S L => lv_iconst C.1 C.2.1 hd hv (h p l e s m a b me c G H lo rl C K P S L)
theorem E_bipush {n : Int} {v : Int32} (hd : decode cc pc = .ok (.bipush n, 2)) (hv : (Int8.ofInt n).toInt32 = v) (h : Ev cc nL rt own R (pc + 2) ls (.int v :: st) σ Q) : Ev cc nL rt own R pc ls st σ Q := fun p l e s m a b me c G H lo rl C K P S L => lv_bipush C.1 C.2.1 hd hv (h p l e s m a b me c G H lo rl C K P S L)
theorem E_sipush {n : Int} {v : Int32} (hd : decode cc pc = .ok (.sipush n, 3)) (hv : (Int16.ofInt n).toInt32 = v) (h : Ev cc nL rt own R (pc + 3) ls (.int v :: st) σ Q) : Ev cc nL rt own R pc ls st σ Q := fun p l e s m a b me c G H lo rl C K P S L => lv_sipush C.1 C.2.1 hd hv (h p l e s m a b me c G H lo rl C K P S L)
theorem E_lconst {n : Fin 2} {v : Int64} (hd : decode cc pc = .ok (.lconst n, 1)) (hv : Int64.ofNat (n : Nat) = v) (h : Ev cc nL rt own R (pc + 1) ls (.long v :: st) σ Q) : Ev cc nL rt own R pc ls st σ Q := fun p l e s m a b me c G H lo rl C K P S L => lv_lconst C.1 C.2.1 hd hv (h p l e s m a b me c G H lo rl C K P S L)
theorem E_ldc {i : Nat} {v : Int32} (hd : decode cc pc = .ok (.ldc i, 2)) (hw : Cond.constant own i v ∈ Tg) (h : Ev cc nL rt own R (pc + 2) ls (.int v :: st) σ Q) : Ev cc nL rt own R pc ls st σ Q := fun p l e s m a b me c G H lo rl C K P S L => lv_ldc C.1 C.2.1 C.2.2.2.2.1 (C.2.2.2.2.2.1 _ hw) hd (h p l e s m a b me c G H lo rl C K P S L)
theorem E_ldcw {i : Nat} {v : Int32} (hd : decode cc pc = .ok (.ldc_w i, 3)) (hw : Cond.constant own i v ∈ Tg) (h : Ev cc nL rt own R (pc + 3) ls (.int v :: st) σ Q) : Ev cc nL rt own R pc ls st σ Q := fun p l e s m a b me c G H lo rl C K P S L => lv_ldcw C.1 C.2.1 C.2.2.2.2.1 (C.2.2.2.2.2.1 _ hw) hd (h p l e s m a b me c G H lo rl C K P S L)
theorem E_ldc2 {i : Nat} {v : Int64} (hd : decode cc pc = .ok (.ldc2_w i, 3)) (hw : Cond.constantLong own i v ∈ Tg) (h : Ev cc nL rt own R (pc + 3) ls (.long v :: st) σ Q) : Ev cc nL rt own R pc ls st σ Q := fun p l e s m a b me c G H lo rl C K P S L => lv_ldc2 C.1 C.2.1 C.2.2.2.2.1 (C.2.2.2.2.2.1 _ hw) hd (h p l e s m a b me c G H lo rl C K P S L)
theorem E_null (hd : decode cc pc = .ok (.aconst_null, 1)) (h : Ev cc nL rt own R (pc + 1) ls (.ref 999 :: st) σ Q) : Ev cc nL rt own R pc ls st σ Q := fun p l e s m a b me c G H lo rl C K P S L => lv_null C.1 C.2.1 hd (h p l e s m a b me c G H lo rl C K P S L)
theorem E_iload_n {k : Fin 4} {x : Int32} (hd : decode cc pc = .ok (.iload_n k, 1)) (hl : ls[(k : Nat)]? = some (.int x)) (h : Ev cc nL rt own R (pc + 1) ls (.int x :: st) σ Q) : Ev cc nL rt own R pc ls st σ Q := fun p l e s m a b me c G H lo rl C K P S L => lv_iload_n C.1 C.2.1 hd rfl (L.2.2 _ _ hl rfl) (h p l e s m a b me c G H lo rl C K P S L)
theorem E_iload {k : Nat} {x : Int32} (hd : decode cc pc = .ok (.iload k, 2)) (hl : ls[k]? = some (.int x)) (h : Ev cc nL rt own R (pc + 2) ls (.int x :: st) σ Q) : Ev cc nL rt own R pc ls st σ Q := fun p l e s m a b me c G H lo rl C K P S L => lv_iload C.1 C.2.1 hd (L.2.2 _ _ hl rfl) (h p l e s m a b me c G H lo rl C K P S L)
theorem E_lload_n {k : Fin 4} {x : Int64} (hd : decode cc pc = .ok (.lload_n k, 1)) (hl : ls[(k : Nat)]? = some (.long x)) (h : Ev cc nL rt own R (pc + 1) ls (.long x :: st) σ Q) : Ev cc nL rt own R pc ls st σ Q := fun p l e s m a b me c G H lo rl C K P S L => lv_lload_n C.1 C.2.1 hd rfl (L.2.2 _ _ hl rfl) (h p l e s m a b me c G H lo rl C K P S L)
theorem E_lload {k : Nat} {x : Int64} (hd : decode cc pc = .ok (.lload k, 2)) (hl : ls[k]? = some (.long x)) (h : Ev cc nL rt own R (pc + 2) ls (.long x :: st) σ Q) : Ev cc nL rt own R pc ls st σ Q := fun p l e s m a b me c G H lo rl C K P S L => lv_lload C.1 C.2.1 hd (L.2.2 _ _ hl rfl) (h p l e s m a b me c G H lo rl C K P S L)
theorem E_aload_n {k : Fin 4} {x : Nat} (hd : decode cc pc = .ok (.aload_n k, 1)) (hl : ls[(k : Nat)]? = some (.ref x)) (h : Ev cc nL rt own R (pc + 1) ls (.ref x :: st) σ Q) : Ev cc nL rt own R pc ls st σ Q := by
  intro p l e s m a b me c G H lo rl C K P S L
  have q := L.2.2 _ _ hl rfl
  have h' := h p l e s m a b me c G H lo rl C K P S L
  rw [List.map_cons] at h'
  by_cases h9 : x = 999
  · have ec : cv G (.ref x) = .null := if_pos h9
    rw [ec] at q h'
    exact lv_aload_nN C.1 C.2.1 hd rfl q h'
  · have ec : cv G (.ref x) = .ref (adO G x) := if_neg h9
    rw [ec] at q h'
    exact lv_aload_n C.1 C.2.1 hd rfl q h'
theorem E_aload {k : Nat} {x : Nat} (hd : decode cc pc = .ok (.aload k, 2)) (hl : ls[k]? = some (.ref x)) (h : Ev cc nL rt own R (pc + 2) ls (.ref x :: st) σ Q) : Ev cc nL rt own R pc ls st σ Q := by
  intro p l e s m a b me c G H lo rl C K P S L
  have q := L.2.2 _ _ hl rfl
  have h' := h p l e s m a b me c G H lo rl C K P S L
  rw [List.map_cons] at h'
  by_cases h9 : x = 999
  · have ec : cv G (.ref x) = .null := if_pos h9
    rw [ec] at q h'
    exact lv_aloadN C.1 C.2.1 hd q h'
  · have ec : cv G (.ref x) = .ref (adO G x) := if_neg h9
    rw [ec] at q h'
    exact lv_aload C.1 C.2.1 hd q h'
theorem lvO_of1 {G : Gx} {rl rl' : Array Slot} {i : Nat} {v : Value} (h : lv_has rl' nL ((i, cv G v) :: (prO G ls).filter (fun q => !(q.1 == i) && !(q.1 + 1 == i && q.2.category == 2)))) (hl : lset1 ls i v = ls') : lvO G rl' nL ls' := by
  obtain ⟨h1, h2, h3⟩ := h
  refine ⟨h1, h2, fun k w hk hu => ?_⟩
  subst hl
  unfold lset1 at hk
  rw [List.getElem?_set] at hk
  by_cases ek : i = k
  · subst ek
    rw [if_pos rfl] at hk
    split at hk
    · cases hk; exact h3 (i, cv G v) List.mem_cons_self
    · cases hk
  · rw [if_neg ek] at hk
    obtain ⟨g1, g2⟩ := inv1_get hk hu
    refine h3 (k, cv G w) (List.mem_cons_of_mem _ (List.mem_filter.mpr ⟨prO_in g1 hu, ?_⟩))
    have n1 : (k == i) = false := by simp; exact fun z => ek z.symm
    simp only [n1, cv_cat, Bool.not_false, Bool.true_and, Bool.not_eq_true', Bool.and_eq_false_iff, beq_eq_false_iff_ne, ne_eq]
    by_cases z : k + 1 = i
    · exact Or.inr (fun y => g2 ⟨z, y⟩)
    · exact Or.inl z
theorem lvO_of2 {G : Gx} {rl rl' : Array Slot} {i : Nat} {v : Value} (h : lv_has rl' nL ((i, cv G v) :: (prO G ls).filter (fun q => !(q.1 == i) && (!(q.1 == i + 1) && !(q.1 + 1 == i && q.2.category == 2))))) (hl : lset2 ls i v = ls') : lvO G rl' nL ls' := by
  obtain ⟨h1, h2, h3⟩ := h
  refine ⟨h1, h2, fun k w hk hu => ?_⟩
  subst hl
  unfold lset2 at hk
  rw [List.getElem?_set] at hk
  by_cases ek2 : i + 1 = k
  · rw [if_pos ek2] at hk
    split at hk
    · cases hk; cases hu
    · cases hk
  · rw [if_neg ek2, List.getElem?_set] at hk
    by_cases ek : i = k
    · subst ek
      rw [if_pos rfl] at hk
      split at hk
      · cases hk; exact h3 (i, cv G v) List.mem_cons_self
      · cases hk
    · rw [if_neg ek] at hk
      obtain ⟨g1, g2⟩ := inv1_get hk hu
      refine h3 (k, cv G w) (List.mem_cons_of_mem _ (List.mem_filter.mpr ⟨prO_in g1 hu, ?_⟩))
      have n1 : (k == i) = false := by simp; exact fun z => ek z.symm
      have n2 : (k == i + 1) = false := by simp; exact fun z => ek2 z.symm
      simp only [n1, n2, cv_cat, Bool.not_false, Bool.true_and, Bool.not_eq_true', Bool.and_eq_false_iff, beq_eq_false_iff_ne, ne_eq]
      by_cases z : k + 1 = i
      · exact Or.inr (fun y => g2 ⟨z, y⟩)
      · exact Or.inl z
theorem E_istore_n {k : Fin 4} {x : Int32} (hd : decode cc pc = .ok (.istore_n k, 1)) (hn : (k : Nat) < nL) (hl : lset1 ls (k : Nat) (.int x) = ls') (h : Ev cc nL rt own R (pc + 1) ls' st σ Q) : Ev cc nL rt own R pc ls (.int x :: st) σ Q := fun p l e s m a b me c G H lo rl C K P S L => lv_istore_n C.1 C.2.1 hd rfl (lvO_has L) hn rfl (fun r2 h2 => h p l e s m a b me c G H lo r2 C K P S (lvO_of1 (rl := rl) (v := .int x) h2 hl))
theorem E_lstore_n {k : Fin 4} {x : Int64} (hd : decode cc pc = .ok (.lstore_n k, 1)) (hn : (k : Nat) + 1 < nL) (hl : lset2 ls (k : Nat) (.long x) = ls') (h : Ev cc nL rt own R (pc + 1) ls' st σ Q) : Ev cc nL rt own R pc ls (.long x :: st) σ Q := fun p l e s m a b me c G H lo rl C K P S L => lv_lstore_n C.1 C.2.1 hd rfl (lvO_has L) hn rfl (fun r2 h2 => h p l e s m a b me c G H lo r2 C K P S (lvO_of2 (rl := rl) (v := .long x) h2 hl))
theorem E_astore_n {k : Fin 4} {x : Nat} (hd : decode cc pc = .ok (.astore_n k, 1)) (hn : (k : Nat) < nL) (hx : x ≠ 999) (hl : lset1 ls (k : Nat) (.ref x) = ls') (h : Ev cc nL rt own R (pc + 1) ls' st σ Q) : Ev cc nL rt own R pc ls (.ref x :: st) σ Q := by
  intro p l e s m a b me c G H lo rl C K P S L
  rw [List.map_cons]
  have ec : cv G (.ref x) = .ref (adO G x) := if_neg hx
  rw [ec]
  refine lv_astore_n C.1 C.2.1 hd rfl (lvO_has L) hn rfl (fun r2 h2 => h p l e s m a b me c G H lo r2 C K P S (lvO_of1 (rl := rl) (v := .ref x) ?_ hl))
  rw [ec]
  exact h2
theorem E_istore {k : Nat} {x : Int32} (hd : decode cc pc = .ok (.istore k, 2)) (hn : k < nL) (hl : lset1 ls k (.int x) = ls') (h : Ev cc nL rt own R (pc + 2) ls' st σ Q) : Ev cc nL rt own R pc ls (.int x :: st) σ Q := fun p l e s m a b me c G H lo rl C K P S L => lv_istore C.1 C.2.1 hd (lvO_has L) hn rfl (fun r2 h2 => h p l e s m a b me c G H lo r2 C K P S (lvO_of1 (rl := rl) (v := .int x) h2 hl))
theorem E_lstore {k : Nat} {x : Int64} (hd : decode cc pc = .ok (.lstore k, 2)) (hn : k + 1 < nL) (hl : lset2 ls k (.long x) = ls') (h : Ev cc nL rt own R (pc + 2) ls' st σ Q) : Ev cc nL rt own R pc ls (.long x :: st) σ Q := fun p l e s m a b me c G H lo rl C K P S L => lv_lstore C.1 C.2.1 hd (lvO_has L) hn rfl (fun r2 h2 => h p l e s m a b me c G H lo r2 C K P S (lvO_of2 (rl := rl) (v := .long x) h2 hl))
theorem E_astore {k : Nat} {x : Nat} (hd : decode cc pc = .ok (.astore k, 2)) (hn : k < nL) (hx : x ≠ 999) (hl : lset1 ls k (.ref x) = ls') (h : Ev cc nL rt own R (pc + 2) ls' st σ Q) : Ev cc nL rt own R pc ls (.ref x :: st) σ Q := by
  intro p l e s m a b me c G H lo rl C K P S L
  rw [List.map_cons]
  have ec : cv G (.ref x) = .ref (adO G x) := if_neg hx
  rw [ec]
  refine lv_astore C.1 C.2.1 hd (lvO_has L) hn rfl (fun r2 h2 => h p l e s m a b me c G H lo r2 C K P S (lvO_of1 (rl := rl) (v := .ref x) ?_ hl))
  rw [ec]
  exact h2
theorem E_iinc {k : Nat} {n : Int} {x v : Int32} (hd : decode cc pc = .ok (.iinc k n, 3)) (hx : ls[k]? = some (.int x)) (hv : x + Int32.ofInt n = v) (hn : k < nL) (hl : lset1 ls k (.int v) = ls') (h : Ev cc nL rt own R (pc + 3) ls' st σ Q) : Ev cc nL rt own R pc ls st σ Q := by
  intro p l e s m a b me c G H lo rl C K P S L
  obtain ⟨q, hq⟩ := List.getElem?_of_mem (prO_in (G := G) hx rfl)
  exact lv_iinc C.1 C.2.1 hd (lvO_has L) hq hv hn rfl (fun r2 h2 => h p l e s m a b me c G H lo r2 C K P S (lvO_of1 (rl := rl) (v := .int v) h2 hl))
theorem E_dup {v : Value} (hd : decode cc pc = .ok (.dup, 1)) (hv : v.category = 1) (h : Ev cc nL rt own R (pc + 1) ls (v :: v :: st) σ Q) : Ev cc nL rt own R pc ls (v :: st) σ Q := fun p l e s m a b me c G H lo rl C K P S L => lv_dup C.1 C.2.1 hd (by rw [cv_cat]; exact hv) (h p l e s m a b me c G H lo rl C K P S L)
theorem E_pop {v : Value} (hd : decode cc pc = .ok (.pop, 1)) (hv : v.category = 1) (h : Ev cc nL rt own R (pc + 1) ls st σ Q) : Ev cc nL rt own R pc ls (v :: st) σ Q := fun p l e s m a b me c G H lo rl C K P S L => lv_pop C.1 C.2.1 hd (by rw [cv_cat]; exact hv) (h p l e s m a b me c G H lo rl C K P S L)
theorem E_dup_x1 {v w : Value} (hd : decode cc pc = .ok (.dup_x1, 1)) (hv : v.category = 1) (hw : w.category = 1) (h : Ev cc nL rt own R (pc + 1) ls (v :: w :: v :: st) σ Q) : Ev cc nL rt own R pc ls (v :: w :: st) σ Q := fun p l e s m a b me c G H lo rl C K P S L => lv_dup_x1 C.1 C.2.1 hd (by rw [cv_cat]; exact hv) (by rw [cv_cat]; exact hw) (h p l e s m a b me c G H lo rl C K P S L)
theorem E_dup2 {v w : Value} (hd : decode cc pc = .ok (.dup2, 1)) (hv : v.category = 1) (hw : w.category = 1) (h : Ev cc nL rt own R (pc + 1) ls (v :: w :: v :: w :: st) σ Q) : Ev cc nL rt own R pc ls (v :: w :: st) σ Q := fun p l e s m a b me c G H lo rl C K P S L => lv_dup2_11 C.1 C.2.1 hd (by rw [cv_cat]; exact hv) (by rw [cv_cat]; exact hw) (h p l e s m a b me c G H lo rl C K P S L)
theorem E_if_eq {x : Int32} {off : Int} (tgt : Nat) (hd : decode cc pc = .ok (.ifCond .eq off, 3)) (ht : (pc : Int) + off = (tgt : Int)) (h1 : x = 0 → Ev cc nL rt own R tgt ls st σ Q) (h2 : ¬ x = 0 → Ev cc nL rt own R (pc + 3) ls st σ Q) : Ev cc nL rt own R pc ls (.int x :: st) σ Q := fun p l e s m a b me c G H lo rl C K P S L => lv_if_eq C.1 C.2.1 hd ht (fun z => h1 z p l e s m a b me c G H lo rl C K P S L) (fun z => h2 z p l e s m a b me c G H lo rl C K P S L)
theorem E_icmp_eq {x y : Int32} {off : Int} (tgt : Nat) (hd : decode cc pc = .ok (.if_icmp .eq off, 3)) (ht : (pc : Int) + off = (tgt : Int)) (h1 : x = y → Ev cc nL rt own R tgt ls st σ Q) (h2 : ¬ x = y → Ev cc nL rt own R (pc + 3) ls st σ Q) : Ev cc nL rt own R pc ls (.int y :: .int x :: st) σ Q := fun p l e s m a b me c G H lo rl C K P S L => lv_icmp_eq C.1 C.2.1 hd ht (fun z => h1 z p l e s m a b me c G H lo rl C K P S L) (fun z => h2 z p l e s m a b me c G H lo rl C K P S L)
theorem E_if_ne {x : Int32} {off : Int} (tgt : Nat) (hd : decode cc pc = .ok (.ifCond .ne off, 3)) (ht : (pc : Int) + off = (tgt : Int)) (h1 : ¬ x = 0 → Ev cc nL rt own R tgt ls st σ Q) (h2 : x = 0 → Ev cc nL rt own R (pc + 3) ls st σ Q) : Ev cc nL rt own R pc ls (.int x :: st) σ Q := fun p l e s m a b me c G H lo rl C K P S L => lv_if_ne C.1 C.2.1 hd ht (fun z => h1 z p l e s m a b me c G H lo rl C K P S L) (fun z => h2 z p l e s m a b me c G H lo rl C K P S L)
theorem E_icmp_ne {x y : Int32} {off : Int} (tgt : Nat) (hd : decode cc pc = .ok (.if_icmp .ne off, 3)) (ht : (pc : Int) + off = (tgt : Int)) (h1 : ¬ x = y → Ev cc nL rt own R tgt ls st σ Q) (h2 : x = y → Ev cc nL rt own R (pc + 3) ls st σ Q) : Ev cc nL rt own R pc ls (.int y :: .int x :: st) σ Q := fun p l e s m a b me c G H lo rl C K P S L => lv_icmp_ne C.1 C.2.1 hd ht (fun z => h1 z p l e s m a b me c G H lo rl C K P S L) (fun z => h2 z p l e s m a b me c G H lo rl C K P S L)
theorem E_if_lt {x : Int32} {off : Int} (tgt : Nat) (hd : decode cc pc = .ok (.ifCond .lt off, 3)) (ht : (pc : Int) + off = (tgt : Int)) (h1 : x < 0 → Ev cc nL rt own R tgt ls st σ Q) (h2 : ¬ x < 0 → Ev cc nL rt own R (pc + 3) ls st σ Q) : Ev cc nL rt own R pc ls (.int x :: st) σ Q := fun p l e s m a b me c G H lo rl C K P S L => lv_if_lt C.1 C.2.1 hd ht (fun z => h1 z p l e s m a b me c G H lo rl C K P S L) (fun z => h2 z p l e s m a b me c G H lo rl C K P S L)
theorem E_icmp_lt {x y : Int32} {off : Int} (tgt : Nat) (hd : decode cc pc = .ok (.if_icmp .lt off, 3)) (ht : (pc : Int) + off = (tgt : Int)) (h1 : x < y → Ev cc nL rt own R tgt ls st σ Q) (h2 : ¬ x < y → Ev cc nL rt own R (pc + 3) ls st σ Q) : Ev cc nL rt own R pc ls (.int y :: .int x :: st) σ Q := fun p l e s m a b me c G H lo rl C K P S L => lv_icmp_lt C.1 C.2.1 hd ht (fun z => h1 z p l e s m a b me c G H lo rl C K P S L) (fun z => h2 z p l e s m a b me c G H lo rl C K P S L)
theorem E_if_ge {x : Int32} {off : Int} (tgt : Nat) (hd : decode cc pc = .ok (.ifCond .ge off, 3)) (ht : (pc : Int) + off = (tgt : Int)) (h1 : 0 ≤ x → Ev cc nL rt own R tgt ls st σ Q) (h2 : ¬ 0 ≤ x → Ev cc nL rt own R (pc + 3) ls st σ Q) : Ev cc nL rt own R pc ls (.int x :: st) σ Q := fun p l e s m a b me c G H lo rl C K P S L => lv_if_ge C.1 C.2.1 hd ht (fun z => h1 z p l e s m a b me c G H lo rl C K P S L) (fun z => h2 z p l e s m a b me c G H lo rl C K P S L)
theorem E_icmp_ge {x y : Int32} {off : Int} (tgt : Nat) (hd : decode cc pc = .ok (.if_icmp .ge off, 3)) (ht : (pc : Int) + off = (tgt : Int)) (h1 : y ≤ x → Ev cc nL rt own R tgt ls st σ Q) (h2 : ¬ y ≤ x → Ev cc nL rt own R (pc + 3) ls st σ Q) : Ev cc nL rt own R pc ls (.int y :: .int x :: st) σ Q := fun p l e s m a b me c G H lo rl C K P S L => lv_icmp_ge C.1 C.2.1 hd ht (fun z => h1 z p l e s m a b me c G H lo rl C K P S L) (fun z => h2 z p l e s m a b me c G H lo rl C K P S L)
theorem E_if_gt {x : Int32} {off : Int} (tgt : Nat) (hd : decode cc pc = .ok (.ifCond .gt off, 3)) (ht : (pc : Int) + off = (tgt : Int)) (h1 : 0 < x → Ev cc nL rt own R tgt ls st σ Q) (h2 : ¬ 0 < x → Ev cc nL rt own R (pc + 3) ls st σ Q) : Ev cc nL rt own R pc ls (.int x :: st) σ Q := fun p l e s m a b me c G H lo rl C K P S L => lv_if_gt C.1 C.2.1 hd ht (fun z => h1 z p l e s m a b me c G H lo rl C K P S L) (fun z => h2 z p l e s m a b me c G H lo rl C K P S L)
theorem E_icmp_gt {x y : Int32} {off : Int} (tgt : Nat) (hd : decode cc pc = .ok (.if_icmp .gt off, 3)) (ht : (pc : Int) + off = (tgt : Int)) (h1 : y < x → Ev cc nL rt own R tgt ls st σ Q) (h2 : ¬ y < x → Ev cc nL rt own R (pc + 3) ls st σ Q) : Ev cc nL rt own R pc ls (.int y :: .int x :: st) σ Q := fun p l e s m a b me c G H lo rl C K P S L => lv_icmp_gt C.1 C.2.1 hd ht (fun z => h1 z p l e s m a b me c G H lo rl C K P S L) (fun z => h2 z p l e s m a b me c G H lo rl C K P S L)
theorem E_if_le {x : Int32} {off : Int} (tgt : Nat) (hd : decode cc pc = .ok (.ifCond .le off, 3)) (ht : (pc : Int) + off = (tgt : Int)) (h1 : x ≤ 0 → Ev cc nL rt own R tgt ls st σ Q) (h2 : ¬ x ≤ 0 → Ev cc nL rt own R (pc + 3) ls st σ Q) : Ev cc nL rt own R pc ls (.int x :: st) σ Q := fun p l e s m a b me c G H lo rl C K P S L => lv_if_le C.1 C.2.1 hd ht (fun z => h1 z p l e s m a b me c G H lo rl C K P S L) (fun z => h2 z p l e s m a b me c G H lo rl C K P S L)
theorem E_icmp_le {x y : Int32} {off : Int} (tgt : Nat) (hd : decode cc pc = .ok (.if_icmp .le off, 3)) (ht : (pc : Int) + off = (tgt : Int)) (h1 : x ≤ y → Ev cc nL rt own R tgt ls st σ Q) (h2 : ¬ x ≤ y → Ev cc nL rt own R (pc + 3) ls st σ Q) : Ev cc nL rt own R pc ls (.int y :: .int x :: st) σ Q := fun p l e s m a b me c G H lo rl C K P S L => lv_icmp_le C.1 C.2.1 hd ht (fun z => h1 z p l e s m a b me c G H lo rl C K P S L) (fun z => h2 z p l e s m a b me c G H lo rl C K P S L)
theorem E_goto {off : Int} (tgt : Nat) (hd : decode cc pc = .ok (.goto off, 3)) (ht : (pc : Int) + off = (tgt : Int)) (h : Ev cc nL rt own R tgt ls st σ Q) : Ev cc nL rt own R pc ls st σ Q := fun p l e s m a b me c G H lo rl C K P S L => lv_goto C.1 C.2.1 hd ht (h p l e s m a b me c G H lo rl C K P S L)
theorem E_ifnull {x : Nat} {off : Int} (tgt : Nat) (hd : decode cc pc = .ok (.ifnull off, 3)) (ht : (pc : Int) + off = (tgt : Int)) (h1 : x = 999 → Ev cc nL rt own R tgt ls st σ Q) (h2 : ¬ x = 999 → Ev cc nL rt own R (pc + 3) ls st σ Q) : Ev cc nL rt own R pc ls (.ref x :: st) σ Q := by
  intro p l e s m a b me c G H lo rl C K P S L
  rw [List.map_cons]
  by_cases h9 : x = 999
  · have ec : cv G (.ref x) = .null := if_pos h9
    rw [ec]
    exact lv_ifnullN C.1 C.2.1 hd ht (h1 h9 p l e s m a b me c G H lo rl C K P S L)
  · have ec : cv G (.ref x) = .ref (adO G x) := if_neg h9
    rw [ec]
    exact lv_ifnull C.1 C.2.1 hd (h2 h9 p l e s m a b me c G H lo rl C K P S L)
theorem E_ifnonnull {x : Nat} {off : Int} (tgt : Nat) (hd : decode cc pc = .ok (.ifnonnull off, 3)) (ht : (pc : Int) + off = (tgt : Int)) (h1 : ¬ x = 999 → Ev cc nL rt own R tgt ls st σ Q) (h2 : x = 999 → Ev cc nL rt own R (pc + 3) ls st σ Q) : Ev cc nL rt own R pc ls (.ref x :: st) σ Q := by
  intro p l e s m a b me c G H lo rl C K P S L
  rw [List.map_cons]
  by_cases h9 : x = 999
  · have ec : cv G (.ref x) = .null := if_pos h9
    rw [ec]
    exact lv_ifnonnullN C.1 C.2.1 hd (h2 h9 p l e s m a b me c G H lo rl C K P S L)
  · have ec : cv G (.ref x) = .ref (adO G x) := if_neg h9
    rw [ec]
    exact lv_ifnonnull C.1 C.2.1 hd ht (h1 h9 p l e s m a b me c G H lo rl C K P S L)
theorem E_tsw {x : Int32} {d lo hi : Int} {offs : Array Int} {len : Nat} (tg : List (Int32 × Nat)) (dt : Nat) (hd : decode cc pc = .ok (.tableswitch d lo hi offs, len)) (ht : (pc : Int) + d = (dt : Int)) (hhi : hi + 1 = lo + (tg.length : Int)) (hv : tg.map (fun q => q.1.toInt) = (List.range tg.length).map (fun j : Nat => lo + (j : Int))) (ho : offs.toList.map (fun o => (pc : Int) + o) = tg.map (fun q => (q.2 : Int)))
    (h1 : ∀ q ∈ tg, x = q.1 → Ev cc nL rt own R q.2 ls st σ Q) (h2 : (∀ q ∈ tg, ¬ x = q.1) → Ev cc nL rt own R dt ls st σ Q) : Ev cc nL rt own R pc ls (.int x :: st) σ Q := by
  intro p l e s m a b me c G H lo' rl C K P S L
  have hval : ∀ (j : Nat) (hj : j < tg.length), (tg[j]).1.toInt = lo + (j : Int) := by
    intro j hj
    have e1 := congrArg (fun l => l[j]?) hv
    simp only [List.getElem?_map, List.getElem?_eq_getElem hj, List.getElem?_range hj] at e1
    exact Option.some.inj e1
  by_cases hx : x.toInt < lo ∨ hi < x.toInt
  · refine lv_tableOut C.1 C.2.1 hd hx ht (h2 (fun q hq e1 => ?_) p l e s m a b me c G H lo' rl C K P S L)
    obtain ⟨j, hj, ej⟩ := List.getElem_of_mem hq
    have := hval j hj
    rw [ej, ← e1] at this
    omega
  · have hn : ¬ x.toInt < lo := fun z => hx (Or.inl z)
    have hm : ¬ hi < x.toInt := fun z => hx (Or.inr z)
    obtain ⟨j, ej⟩ : ∃ j : Nat, (j : Int) = x.toInt - lo := ⟨(x.toInt - lo).toNat, by omega⟩
    have hj : j < tg.length := by omega
    have e0 : x = (tg[j]).1 := Int32.toInt_inj.mp (by rw [hval j hj]; omega)
    have hlen : offs.toList.length = tg.length := by have := congrArg List.length ho; simpa using this
    have hj2 : j < offs.toList.length := by omega
    have e1 : (offs.toList.map (fun o => (pc : Int) + o))[j]? = some ((tg[j]).2 : Int) := by rw [ho, List.getElem?_map, List.getElem?_eq_getElem hj]; rfl
    rw [List.getElem?_map, List.getElem?_eq_getElem hj2] at e1
    have e2 : (pc : Int) + offs.toList[j] = ((tg[j]).2 : Int) := Option.some.inj e1
    refine lv_tableIn (off := offs.toList[j]) C.1 C.2.1 hd hn hm ?_ e2 (h1 _ (List.getElem_mem hj) e0 p l e s m a b me c G H lo' rl C K P S L)
    rw [← ej, show ((j : Int)).toNat = j by omega, ← Array.getElem?_toList, List.getElem?_eq_getElem hj2]
theorem lsw_off {x : Int32} {d : Int} : ∀ (ps : List (Int × Int)) (tg : List (Int32 × Nat)), ps.map (fun q => (q.1, (pc : Int) + q.2)) = tg.map (fun q => (q.1.toInt, (q.2 : Int))) → (∃ q ∈ tg, x = q.1 ∧ (pc : Int) + Op.lookupswitch.offset ps d x.toInt = (q.2 : Int)) ∨ ((∀ q ∈ tg, ¬ x = q.1) ∧ Op.lookupswitch.offset ps d x.toInt = d) := by
  intro ps
  induction ps with
  | nil =>
    intro tg h
    have : tg = [] := by cases tg with
      | nil => rfl
      | cons q tg => simp at h
    subst this
    exact Or.inr ⟨fun q hq => (by cases hq), rfl⟩
  | cons p1 ps ih =>
    intro tg h
    cases tg with
    | nil => simp at h
    | cons q tg =>
      simp only [List.map_cons, List.cons.injEq, Prod.mk.injEq] at h
      obtain ⟨⟨ha, hb⟩, hc⟩ := h
      by_cases hx : x = q.1
      · refine Or.inl ⟨q, List.mem_cons_self, hx, ?_⟩
        obtain ⟨a1, a2⟩ := p1
        rw [Op.lookupswitch.offset_cons, if_pos (by rw [hx]; exact ha)]
        exact hb
      · obtain ⟨a1, a2⟩ := p1
        have e1 := lv_osw (x := x) (o := a2) (d := d) (r := ps) hx ha.symm
        rcases ih tg hc with ⟨q', hq', h1, h2⟩ | ⟨h1, h2⟩
        · exact Or.inl ⟨q', List.mem_cons_of_mem _ hq', h1, by rw [e1]; exact h2⟩
        · refine Or.inr ⟨fun q' hq' => ?_, by rw [e1]; exact h2⟩
          rcases List.mem_cons.mp hq' with rfl | hq'
          · exact hx
          · exact h1 q' hq'
theorem E_lsw {x : Int32} {d : Int} {ps : Array (Int × Int)} {len : Nat} (tg : List (Int32 × Nat)) (dt : Nat) (hd : decode cc pc = .ok (.lookupswitch d ps, len)) (hp : (ps.toList.zip (ps.toList.drop 1)).all (fun (a, next) => a.1 < next.1) = true) (ht : (pc : Int) + d = (dt : Int)) (ho : ps.toList.map (fun q => (q.1, (pc : Int) + q.2)) = tg.map (fun q => (q.1.toInt, (q.2 : Int))))
    (h1 : ∀ q ∈ tg, x = q.1 → Ev cc nL rt own R q.2 ls st σ Q) (h2 : (∀ q ∈ tg, ¬ x = q.1) → Ev cc nL rt own R dt ls st σ Q) : Ev cc nL rt own R pc ls (.int x :: st) σ Q := by
  intro p l e s m a b me c G H lo' rl C K P S L
  rcases lsw_off (x := x) (d := d) (pc := pc) ps.toList tg ho with ⟨q, hq, g1, g2⟩ | ⟨g1, g2⟩
  · exact lv_lookup C.1 C.2.1 hd hp rfl g2 (h1 q hq g1 p l e s m a b me c G H lo' rl C K P S L)
  · exact lv_lookup C.1 C.2.1 hd hp g2 ht (h2 g1 p l e s m a b me c G H lo' rl C K P S L)
end ER
