section EH
variable {cc : ByteArray} {nL : Nat} {rt : Option FieldType} {own : String} {R : Room} {pc : Nat} {ls ls' st : List Value} {σ : St} {Q : Option Value → St → Prop}
/-- a field by its place in a pool -/
def FdO (own : String) (idx c j : Nat) : Prop := ∃ q : vw_C, clsL[c]? = some q ∧ (∀ w ∈ u_ws q.1 q.2.1 q.2.2, w ∈ Tg) ∧ j < q.2.2 ∧ Cond.fieldLink own idx (q.2.1 j).1 (q.2.1 j).2.1 (q.2.1 j).2.2.1 ∈ Tg
/-- a field that is no final one, of a type -/
def FpO (c j : Nat) (ty : FieldType) : Prop := ∃ (q : vw_C) (ty0 : Nat → FieldType), clsL[c]? = some q ∧ (∀ k, k < q.2.2 → parseFieldDescriptor (q.2.1 k).2.2.1 = some (ty0 k)) ∧ (∀ a, a < q.2.2 → ∀ b, b < q.2.2 → a ≠ b → (q.2.1 a).2.1 ≠ (q.2.1 b).2.1) ∧ (q.2.1 j).2.2.2 = false ∧ parseFieldDescriptor (q.2.1 j).2.2.1 = some ty
theorem cv_ref {G : Gx} {k : Nat} (h : k ≠ 999) : cv G (.ref k) = .ref (adO G k) := if_neg h
theorem cv_cell {G : Gx} {k : Nat} (h : kd k < 12) : cv G (.ref k) = .ref (adO G k) := cv_ref (by have := kd_lt h; omega)
theorem E_getI {k c j idx d : Nat} (hd : decode cc pc = .ok (.getfield idx, 3)) (ho : kd k = c) (hc : c < 8) (hf : (fl c)[j]? = some (1, d)) (hF : FdO own idx c j) (h : Ev cc nL rt own R (pc + 3) ls (.int (gI σ k j) :: st) σ Q) : Ev cc nL rt own R pc ls (.ref k :: st) σ Q := by
  intro p l e s m a b me c' G H lo rl C K P S L
  obtain ⟨q, q1, q2, q3, q4⟩ := hF
  rw [List.map_cons, cv_cell (by omega)]
  refine va_get (Ts := Tg) (C := q.1) (T := q.2.1) (N := q.2.2) (v := .int (gI σ k j)) C.1 C.2.1 C.2.2.2.2.2.1 q2 C.2.2.2.2.1 K.1 P k (wsO_obj ho hc) q1 j q3 (C.2.2.2.2.2.1 _ q4) (fun _ h9 => h9) ?_ hd ?_
  · rw [fsO_at ho hf]; rfl
  · have h' := h p l e s m a b me c' G H lo rl C K P S L
    exact h'
theorem E_getZ {k c j idx d : Nat} (hd : decode cc pc = .ok (.getfield idx, 3)) (ho : kd k = c) (hc : c < 8) (hf : (fl c)[j]? = some (2, d)) (hF : FdO own idx c j) (h : Ev cc nL rt own R (pc + 3) ls (.int (gI σ k j) :: st) σ Q) : Ev cc nL rt own R pc ls (.ref k :: st) σ Q := by
  intro p l e s m a b me c' G H lo rl C K P S L
  obtain ⟨q, q1, q2, q3, q4⟩ := hF
  rw [List.map_cons, cv_cell (by omega)]
  refine va_get (Ts := Tg) (C := q.1) (T := q.2.1) (N := q.2.2) (v := .int (gI σ k j)) C.1 C.2.1 C.2.2.2.2.2.1 q2 C.2.2.2.2.1 K.1 P k (wsO_obj ho hc) q1 j q3 (C.2.2.2.2.2.1 _ q4) (fun _ h9 => h9) ?_ hd ?_
  · rw [fsO_at ho hf]; rfl
  · have h' := h p l e s m a b me c' G H lo rl C K P S L
    exact h'
theorem E_getL {k c j idx d : Nat} (hd : decode cc pc = .ok (.getfield idx, 3)) (ho : kd k = c) (hc : c < 8) (hf : (fl c)[j]? = some (3, d)) (hF : FdO own idx c j) (h : Ev cc nL rt own R (pc + 3) ls (.long (gL σ k j) :: st) σ Q) : Ev cc nL rt own R pc ls (.ref k :: st) σ Q := by
  intro p l e s m a b me c' G H lo rl C K P S L
  obtain ⟨q, q1, q2, q3, q4⟩ := hF
  rw [List.map_cons, cv_cell (by omega)]
  refine va_get (Ts := Tg) (C := q.1) (T := q.2.1) (N := q.2.2) (v := .long (gL σ k j)) C.1 C.2.1 C.2.2.2.2.2.1 q2 C.2.2.2.2.1 K.1 P k (wsO_obj ho hc) q1 j q3 (C.2.2.2.2.2.1 _ q4) (fun _ h9 => h9) ?_ hd ?_
  · rw [fsO_at ho hf]; rfl
  · have h' := h p l e s m a b me c' G H lo rl C K P S L
    exact h'
theorem E_getR {k c j idx d : Nat} (hd : decode cc pc = .ok (.getfield idx, 3)) (ho : kd k = c) (hc : c < 8) (hf : (fl c)[j]? = some (0, d)) (hF : FdO own idx c j) (h9 : d < 900) (h : Ev cc nL rt own R (pc + 3) ls (.ref (k + d) :: st) σ Q) : Ev cc nL rt own R pc ls (.ref k :: st) σ Q := by
  intro p l e s m a b me c' G H lo rl C K P S L
  obtain ⟨q, q1, q2, q3, q4⟩ := hF
  rw [List.map_cons, cv_cell (by omega)]
  refine va_get (Ts := Tg) (C := q.1) (T := q.2.1) (N := q.2.2) (v := .ref (adO G (k + d))) C.1 C.2.1 C.2.2.2.2.2.1 q2 C.2.2.2.2.1 K.1 P k (wsO_obj ho hc) q1 j q3 (C.2.2.2.2.2.1 _ q4) (fun _ h9 => h9) ?_ hd ?_
  · rw [fsO_at ho hf]; rfl
  · have h' := h p l e s m a b me c' G H lo rl C K P S L
    rw [List.map_cons, show cv G (.ref (k + d)) = .ref (adO G (k + d)) from cv_ref (by have := kd_lt (k := k) (by omega); omega)] at h'
    exact h'
theorem E_putI {k c j idx d : Nat} {x : Int32} (hd : decode cc pc = .ok (.putfield idx, 3)) (ho : kd k = c) (hc : c < 8) (hf : (fl c)[j]? = some (1, d)) (hF : FdO own idx c j) (hp : FpO c j .int) (h : Ev cc nL rt own R (pc + 3) ls st (sI σ k j x) Q) : Ev cc nL rt own R pc ls (.int x :: .ref k :: st) σ Q := by
  intro p l e s m a b me c' G H lo rl C K P S L
  obtain ⟨q, q1, q2, q3, q4⟩ := hF
  obtain ⟨q', ty0, r1, r2, r3, r4, r5⟩ := hp
  cases q1.symm.trans r1
  rw [List.map_cons, List.map_cons, cv_cell (by omega)]
  refine va_put (Ts := Tg) (C := q.1) (T := q.2.1) (N := q.2.2) (v := .int x) (ty := .int) C.1 C.2.1 C.2.2.2.2.2.1 q2 ty0 r2 r3 C.2.2.2.2.1 K.1 P (K.D σ) S k (wsO_obj ho hc) q1 j q3 (C.2.2.2.2.2.1 _ q4) (fun _ h9 => h9) r4 r5 rfl rfl (by rw [fsO_len, ho]; exact (List.getElem?_eq_some_iff.mp hf).1) hd (fun H1 lo1 P1 D1 S1 => ?_)
  rw [wsO_sIf ho hc hf (Or.inl rfl)] at P1
  exact h p l e s m a b me c' G H1 lo1 rl C K P1 S1 L
theorem E_putZ {k c j idx d : Nat} {x : Int32} (hd : decode cc pc = .ok (.putfield idx, 3)) (ho : kd k = c) (hc : c < 8) (hf : (fl c)[j]? = some (2, d)) (hF : FdO own idx c j) (hp : FpO c j .boolean) (hx : x = 0 ∨ x = 1) (h : Ev cc nL rt own R (pc + 3) ls st (sI σ k j x) Q) : Ev cc nL rt own R pc ls (.int x :: .ref k :: st) σ Q := by
  intro p l e s m a b me c' G H lo rl C K P S L
  obtain ⟨q, q1, q2, q3, q4⟩ := hF
  obtain ⟨q', ty0, r1, r2, r3, r4, r5⟩ := hp
  cases q1.symm.trans r1
  rw [List.map_cons, List.map_cons, cv_cell (by omega)]
  refine va_put (Ts := Tg) (C := q.1) (T := q.2.1) (N := q.2.2) (v := .int x) (ty := .boolean) C.1 C.2.1 C.2.2.2.2.2.1 q2 ty0 r2 r3 C.2.2.2.2.1 K.1 P (K.D σ) S k (wsO_obj ho hc) q1 j q3 (C.2.2.2.2.2.1 _ q4) (fun _ h9 => h9) r4 r5 (by rcases hx with rfl | rfl <;> rfl) (by rcases hx with rfl | rfl <;> rfl) (by rw [fsO_len, ho]; exact (List.getElem?_eq_some_iff.mp hf).1) hd (fun H1 lo1 P1 D1 S1 => ?_)
  rw [wsO_sIf ho hc hf (Or.inr rfl)] at P1
  exact h p l e s m a b me c' G H1 lo1 rl C K P1 S1 L
theorem E_putL {k c j idx d : Nat} {x : Int64} (hd : decode cc pc = .ok (.putfield idx, 3)) (ho : kd k = c) (hc : c < 8) (hf : (fl c)[j]? = some (3, d)) (hF : FdO own idx c j) (hp : FpO c j .long) (h : Ev cc nL rt own R (pc + 3) ls st (sL σ k j x) Q) : Ev cc nL rt own R pc ls (.long x :: .ref k :: st) σ Q := by
  intro p l e s m a b me c' G H lo rl C K P S L
  obtain ⟨q, q1, q2, q3, q4⟩ := hF
  obtain ⟨q', ty0, r1, r2, r3, r4, r5⟩ := hp
  cases q1.symm.trans r1
  rw [List.map_cons, List.map_cons, cv_cell (by omega)]
  refine va_put (Ts := Tg) (C := q.1) (T := q.2.1) (N := q.2.2) (v := .long x) (ty := .long) C.1 C.2.1 C.2.2.2.2.2.1 q2 ty0 r2 r3 C.2.2.2.2.1 K.1 P (K.D σ) S k (wsO_obj ho hc) q1 j q3 (C.2.2.2.2.2.1 _ q4) (fun _ h9 => h9) r4 r5 rfl rfl (by rw [fsO_len, ho]; exact (List.getElem?_eq_some_iff.mp hf).1) hd (fun H1 lo1 P1 D1 S1 => ?_)
  rw [wsO_sLf ho hc hf rfl] at P1
  exact h p l e s m a b me c' G H1 lo1 rl C K P1 S1 L
theorem E_iald {k n : Nat} {i : Int32} (hd : decode cc pc = .ok (.iaload, 1)) (hk : kd k = 8) (hn : ln k = n) (hi : vp_in i n) (h : Ev cc nL rt own R (pc + 1) ls (.int (gI σ k i.toNatClampNeg) :: st) σ Q) : Ev cc nL rt own R pc ls (.int i :: .ref k :: st) σ Q := by
  intro p l e s m a b me c G H lo rl C K P S L
  rw [List.map_cons, List.map_cons, cv_cell (by omega)]
  exact va_iald C.1 C.2.1 K.1 P k 0 (wsO_int hk hn) rfl hi hd (h p l e s m a b me c G H lo rl C K P S L)
theorem E_lald {k n : Nat} {i : Int32} (hd : decode cc pc = .ok (.laload, 1)) (hk : kd k = 9) (hn : ln k = n) (hi : vp_in i n) (h : Ev cc nL rt own R (pc + 1) ls (.long (gL σ k i.toNatClampNeg) :: st) σ Q) : Ev cc nL rt own R pc ls (.int i :: .ref k :: st) σ Q := by
  intro p l e s m a b me c G H lo rl C K P S L
  rw [List.map_cons, List.map_cons, cv_cell (by omega)]
  exact va_lald C.1 C.2.1 K.1 P k 1 (wsO_long hk hn) rfl hi hd (h p l e s m a b me c G H lo rl C K P S L)
theorem E_zald {k n : Nat} {i : Int32} (hd : decode cc pc = .ok (.baload, 1)) (hk : kd k = 10) (hn : ln k = n) (hi : vp_in i n) (h : Ev cc nL rt own R (pc + 1) ls (.int (gI σ k i.toNatClampNeg) :: st) σ Q) : Ev cc nL rt own R pc ls (.int i :: .ref k :: st) σ Q := by
  intro p l e s m a b me c G H lo rl C K P S L
  rw [List.map_cons, List.map_cons, cv_cell (by omega)]
  exact va_zald C.1 C.2.1 K.1 P k 2 (wsO_bool hk hn) rfl hi hd (h p l e s m a b me c G H lo rl C K P S L)
theorem E_aald {k n : Nat} {i : Int32} (hd : decode cc pc = .ok (.aaload, 1)) (hk : kd k = 11) (hn : ln k = n) (hi : vp_in i n) (h9 : n < 100) (h : Ev cc nL rt own R (pc + 1) ls (.ref (k + 2 + 2 * i.toNatClampNeg) :: st) σ Q) : Ev cc nL rt own R pc ls (.int i :: .ref k :: st) σ Q := by
  intro p l e s m a b me c G H lo rl C K P S L
  rw [List.map_cons, List.map_cons, cv_cell (by omega)]
  have hlt : i.toNatClampNeg < n := Nat.not_le.mp fun q => hi (Or.inr q)
  have h' := h p l e s m a b me c G H lo rl C K P S L
  rw [List.map_cons, show cv G (.ref (k + 2 + 2 * i.toNatClampNeg)) = .ref (adO G (k + 2 + 2 * i.toNatClampNeg)) from cv_ref (by have := kd_lt (k := k) (by omega); omega)] at h'
  exact va_aldq C.1 C.2.1 K.1 P k 3 (wsO_sheets hk hn) rfl hi hd h'
theorem E_iast {k n : Nat} {i : Int32} {x : Int32} (hd : decode cc pc = .ok (.iastore, 1)) (hk : kd k = 8) (hn : ln k = n) (hi : vp_in i n) (h : Ev cc nL rt own R (pc + 1) ls st (sI σ k i.toNatClampNeg x) Q) : Ev cc nL rt own R pc ls (.int x :: .int i :: .ref k :: st) σ Q := by
  intro p l e s m a b me c G H lo rl C K P S L
  rw [List.map_cons, List.map_cons, List.map_cons, cv_cell (by omega)]
  refine va_iast C.1 C.2.1 K.1 P (K.D σ) S k 0 (wsO_int hk hn) rfl hi hd (fun H1 lo1 P1 D1 S1 => ?_)
  rw [wsO_sIa hk hn] at P1
  exact h p l e s m a b me c G H1 lo1 rl C K P1 S1 L
theorem E_last {k n : Nat} {i : Int32} {x : Int64} (hd : decode cc pc = .ok (.lastore, 1)) (hk : kd k = 9) (hn : ln k = n) (hi : vp_in i n) (h : Ev cc nL rt own R (pc + 1) ls st (sL σ k i.toNatClampNeg x) Q) : Ev cc nL rt own R pc ls (.long x :: .int i :: .ref k :: st) σ Q := by
  intro p l e s m a b me c G H lo rl C K P S L
  rw [List.map_cons, List.map_cons, List.map_cons, cv_cell (by omega)]
  refine va_last C.1 C.2.1 K.1 P (K.D σ) S k 1 (wsO_long hk hn) rfl hi hd (fun H1 lo1 P1 D1 S1 => ?_)
  rw [wsO_sLa hk hn] at P1
  exact h p l e s m a b me c G H1 lo1 rl C K P1 S1 L
theorem E_zast {k n : Nat} {i : Int32} {x : Int32} (hd : decode cc pc = .ok (.bastore, 1)) (hk : kd k = 10) (hn : ln k = n) (hi : vp_in i n) (hx : x = 0 ∨ x = 1) (h : Ev cc nL rt own R (pc + 1) ls st (sI σ k i.toNatClampNeg x) Q) : Ev cc nL rt own R pc ls (.int x :: .int i :: .ref k :: st) σ Q := by
  intro p l e s m a b me c G H lo rl C K P S L
  rw [List.map_cons, List.map_cons, List.map_cons, cv_cell (by omega)]
  refine va_zast C.1 C.2.1 K.1 P (K.D σ) S k 2 (wsO_bool hk hn) rfl hi hd (fun H1 lo1 P1 D1 S1 => ?_)
  rw [show vp_nar .boolean x = x by rcases hx with rfl | rfl <;> decide] at P1
  rw [wsO_sIz hk hn] at P1
  exact h p l e s m a b me c G H1 lo1 rl C K P1 S1 L
theorem E_alenI {k n : Nat} {v : Int32} (hd : decode cc pc = .ok (.arraylength, 1)) (hk : kd k = 8) (hn : ln k = n) (hv : Int32.ofNat n = v) (h : Ev cc nL rt own R (pc + 1) ls (.int v :: st) σ Q) : Ev cc nL rt own R pc ls (.ref k :: st) σ Q := by
  intro p l e s m a b me c G H lo rl C K P S L
  rw [List.map_cons, cv_cell (by omega)]
  exact va_alen C.1 C.2.1 K.1 P k 0 (wsO_int hk hn) rfl hv hd (h p l e s m a b me c G H lo rl C K P S L)
theorem E_alenL {k n : Nat} {v : Int32} (hd : decode cc pc = .ok (.arraylength, 1)) (hk : kd k = 9) (hn : ln k = n) (hv : Int32.ofNat n = v) (h : Ev cc nL rt own R (pc + 1) ls (.int v :: st) σ Q) : Ev cc nL rt own R pc ls (.ref k :: st) σ Q := by
  intro p l e s m a b me c G H lo rl C K P S L
  rw [List.map_cons, cv_cell (by omega)]
  exact va_alen C.1 C.2.1 K.1 P k 1 (wsO_long hk hn) rfl hv hd (h p l e s m a b me c G H lo rl C K P S L)
/-- the table ABOVE, the texts -/
theorem E_above {idx : Nat} (hd : decode cc pc = .ok (.getstatic idx, 3)) (hw : Cond.fieldLink own idx "WallDown" "ABOVE" "[I" ∈ Tg) (h : Ev cc nL rt own R (pc + 3) ls (.ref 200 :: st) σ Q) : Ev cc nL rt own R pc ls st σ Q :=
  fun p l e s m a b me c G H lo rl C K P S L => va_gets C.1 C.2.1 K.2.2.2.1 S C.2.2.2.2.1 (C.2.2.2.2.2.1 _ hw) (fun _ h => h) hd (h p l e s m a b me c G H lo rl C K P S L)
theorem E_aboveAt {i : Int32} (hd : decode cc pc = .ok (.iaload, 1)) (hi : vp_in i 6) (h : Ev cc nL rt own R (pc + 1) ls (.int (aboveL.getD i.toNatClampNeg 0) :: st) σ Q) : Ev cc nL rt own R pc ls (.int i :: .ref 200 :: st) σ Q :=
  fun p l e s m a b me c G H lo rl C K P S L => va_ti C.1 C.2.1 K.2.2.2.2.1 S hi rfl hd (h p l e s m a b me c G H lo rl C K P S L)
theorem E_compact {idx : Nat} (hd : decode cc pc = .ok (.getstatic idx, 3)) (hw : Cond.fieldLink own idx "java/lang/String" "COMPACT_STRINGS" "Z" ∈ Tg) (h : Ev cc nL rt own R (pc + 3) ls (.int 1 :: st) σ Q) : Ev cc nL rt own R pc ls st σ Q :=
  fun p l e s m a b me c G H lo rl C K P S L => va_gets C.1 C.2.1 K.2.2.2.2.2.1 S C.2.2.2.2.1 (C.2.2.2.2.2.1 _ hw) (fun _ h => h) hd (h p l e s m a b me c G H lo rl C K P S L)
theorem E_fmt {idx : Nat} (hd : decode cc pc = .ok (.getstatic idx, 3)) (hw : Cond.fieldLink own idx "jdk/internal/util/Preconditions" "SIOOBE_FORMATTER" "Ljava/util/function/BiFunction;" ∈ Tg) (h : ∀ k : Nat, Ev cc nL rt own R (pc + 3) ls (.ref k :: st) σ Q) : Ev cc nL rt own R pc ls st σ Q := by
  intro p l e s m a b me c G H lo rl C K P S L
  rcases K.2.2.2.2.2.2.2.1 with z | z
  · exact va_gets C.1 C.2.1 z S C.2.2.2.2.1 (C.2.2.2.2.2.1 _ hw) (fun _ h => h) hd (h 999 p l e s m a b me c G H lo rl C K P S L)
  · exact va_gets C.1 C.2.1 z S C.2.2.2.2.1 (C.2.2.2.2.2.1 _ hw) (fun _ h => h) hd (h 201 p l e s m a b me c G H lo rl C K P S L)
theorem E_ldcS {idx i : Nat} (hd : decode cc pc = .ok (.ldc idx, 2)) (ho : own = "WallDown$Teller") (hi : i < stN) (hx : (stL.getD i (0, "", [])).1 = idx) (h : Ev cc nL rt own R (pc + 2) ls (.ref (300 + i) :: st) σ Q) : Ev cc nL rt own R pc ls st σ Q := by
  intro p l e s m a b me c G H lo rl C K P S L
  have h' := h p l e s m a b me c G H lo rl C K P S L
  rw [List.map_cons, show cv G (.ref (300 + i)) = .ref (adO G (300 + i)) from cv_ref (by have : stN = 14 := rfl; omega)] at h'
  subst ho
  subst hx
  exact va_ldcS C.1 C.2.1 C.2.2.2.2.1 (K.2.2.2.2.2.2.2.2 i hi) hd h'
theorem E_strCoder {idx i : Nat} (hd : decode cc pc = .ok (.getfield idx, 3)) (hi : i < stN) (hw : Cond.fieldLink own idx "java/lang/String" "coder" "B" ∈ Tg) (h : Ev cc nL rt own R (pc + 3) ls (.int 0 :: st) σ Q) : Ev cc nL rt own R pc ls (.ref (300 + i) :: st) σ Q := by
  intro p l e s m a b me c G H lo rl C K P S L
  rw [List.map_cons, show cv G (.ref (300 + i)) = .ref (adO G (300 + i)) from cv_ref (by have : stN = 14 := rfl; omega)]
  exact vk_getf C.1 C.2.1 (K.2.2.2.2.2.2.1.1 i hi).2.1 S C.2.2.2.2.1 (C.2.2.2.2.2.1 _ hw) (fun _ h => h) hd (h p l e s m a b me c G H lo rl C K P S L)
theorem E_strValue {idx i : Nat} (hd : decode cc pc = .ok (.getfield idx, 3)) (hi : i < stN) (hw : Cond.fieldLink own idx "java/lang/String" "value" "[B" ∈ Tg) (h : Ev cc nL rt own R (pc + 3) ls (.ref (400 + i) :: st) σ Q) : Ev cc nL rt own R pc ls (.ref (300 + i) :: st) σ Q := by
  intro p l e s m a b me c G H lo rl C K P S L
  have h' := h p l e s m a b me c G H lo rl C K P S L
  rw [List.map_cons, show cv G (.ref (400 + i)) = .ref (adO G (400 + i)) from cv_ref (by have : stN = 14 := rfl; omega)] at h'
  rw [List.map_cons, show cv G (.ref (300 + i)) = .ref (adO G (300 + i)) from cv_ref (by have : stN = 14 := rfl; omega)]
  exact vk_getf C.1 C.2.1 (K.2.2.2.2.2.2.1.1 i hi).2.2.1 S C.2.2.2.2.1 (C.2.2.2.2.2.1 _ hw) (fun _ h => h) hd h'
theorem E_strAt {i : Nat} {k : Int32} (hd : decode cc pc = .ok (.baload, 1)) (hi : i < stN) (hk : vp_in k (stLen.getD i 0)) (h : Ev cc nL rt own R (pc + 1) ls (.int ((stByt.getD i []).getD k.toNatClampNeg 0) :: st) σ Q) : Ev cc nL rt own R pc ls (.int k :: .ref (400 + i) :: st) σ Q := by
  intro p l e s m a b me c G H lo rl C K P S L
  rw [List.map_cons, List.map_cons, show cv G (.ref (400 + i)) = .ref (adO G (400 + i)) from cv_ref (by have : stN = 14 := rfl; omega)]
  exact va_tb C.1 C.2.1 (K.2.2.2.2.2.2.1.1 i hi).2.2.2 S hk rfl hd (h p l e s m a b me c G H lo rl C K P S L)
theorem E_strLen {i : Nat} {v : Int32} (hd : decode cc pc = .ok (.arraylength, 1)) (hi : i < stN) (hv : Int32.ofNat (stLen.getD i 0) = v) (h : Ev cc nL rt own R (pc + 1) ls (.int v :: st) σ Q) : Ev cc nL rt own R pc ls (.ref (400 + i) :: st) σ Q := by
  intro p l e s m a b me c G H lo rl C K P S L
  rw [List.map_cons, show cv G (.ref (400 + i)) = .ref (adO G (400 + i)) from cv_ref (by have : stN = 14 := rfl; omega)]
  exact va_tlen C.1 C.2.1 (K.2.2.2.2.2.2.1.1 i hi).2.2.2 S hv hd (h p l e s m a b me c G H lo rl C K P S L)
theorem E_cpI {k d n1 n2 idx : Nat} {i j n : Int32} (hd : decode cc pc = .ok (.invokestatic idx, 3)) (hw : Cond.methodLink own idx arraycopyName ∈ Tg) (hw2 : Cond.native arraycopyName ∈ Tg) (hw3 : Cond.static arraycopyName ∈ Tg) (hw4 : Cond.initialized "java/lang/System" ∈ Tg) (hk : kd k = 8) (hn1 : ln k = n1) (hk2 : kd d = 8) (hn2 : ln d = n2) (hR : 1 ≤ R.frames ∧ (st.map fun v => v.category).sum + 18 ≤ R.locals)
    (h1 : ¬ i < 0) (h2 : ¬ j < 0) (h3 : ¬ n < 0) (h4 : i.toNatClampNeg + n.toNatClampNeg ≤ n1) (h5 : j.toNatClampNeg + n.toNatClampNeg ≤ n2) (h : Ev cc nL rt own R (pc + 3) ls st (cI σ k i.toNatClampNeg d j.toNatClampNeg n.toNatClampNeg) Q) : Ev cc nL rt own R pc ls (.int n :: .int j :: .ref d :: .int i :: .ref k :: st) σ Q := by
  intro p l e s m a b me c G H lo rl C K P S L
  simp only [List.map_cons, cv_cell (G := G) (k := k) (by omega), cv_cell (G := G) (k := d) (by omega)]
  refine va_copyi C.1 C.2.1 (by rw [C.2.2.2.1]; exact L.1.symm) C.2.2.2.2.1 (C.2.2.2.2.2.1 _ hw) (C.2.2.2.2.2.1 _ hw2) (C.2.2.2.2.2.1 _ hw3) (C.2.2.2.2.2.1 _ hw4) K.1 P (K.D σ) S k d 0 0 (wsO_int hk hn1) (wsO_int hk2 hn2) rfl rfl rfl h1 h2 h3 h4 h5 (fun _ _ => rfl) hR.1 ?_ hd (fun H1 lo1 P1 D1 S1 => ?_)
  · have e1 : (nativeFrameWords "java/lang/System" "arraycopy" 5 + 11) = 18 := by decide
    have e2 : ((st.map (cv G)).map fun v => v.category) = st.map fun v => v.category := by rw [List.map_map]; exact List.map_congr_left (fun v _ => cv_cat G v)
    rw [e1, e2]
    exact hR.2
  · rw [wsO_cIa hk2 hn2] at P1
    exact h p l e s m a b me c G H1 lo1 rl C K P1 S1 L
theorem E_cpL {k d n1 n2 idx : Nat} {i j n : Int32} (hd : decode cc pc = .ok (.invokestatic idx, 3)) (hw : Cond.methodLink own idx arraycopyName ∈ Tg) (hw2 : Cond.native arraycopyName ∈ Tg) (hw3 : Cond.static arraycopyName ∈ Tg) (hw4 : Cond.initialized "java/lang/System" ∈ Tg) (hk : kd k = 9) (hn1 : ln k = n1) (hk2 : kd d = 9) (hn2 : ln d = n2) (hR : 1 ≤ R.frames ∧ (st.map fun v => v.category).sum + 18 ≤ R.locals)
    (h1 : ¬ i < 0) (h2 : ¬ j < 0) (h3 : ¬ n < 0) (h4 : i.toNatClampNeg + n.toNatClampNeg ≤ n1) (h5 : j.toNatClampNeg + n.toNatClampNeg ≤ n2) (h : Ev cc nL rt own R (pc + 3) ls st (cL σ k i.toNatClampNeg d j.toNatClampNeg n.toNatClampNeg) Q) : Ev cc nL rt own R pc ls (.int n :: .int j :: .ref d :: .int i :: .ref k :: st) σ Q := by
  intro p l e s m a b me c G H lo rl C K P S L
  simp only [List.map_cons, cv_cell (G := G) (k := k) (by omega), cv_cell (G := G) (k := d) (by omega)]
  refine va_copyl C.1 C.2.1 (by rw [C.2.2.2.1]; exact L.1.symm) C.2.2.2.2.1 (C.2.2.2.2.2.1 _ hw) (C.2.2.2.2.2.1 _ hw2) (C.2.2.2.2.2.1 _ hw3) (C.2.2.2.2.2.1 _ hw4) K.1 P (K.D σ) S k d 1 1 (wsO_long hk hn1) (wsO_long hk2 hn2) rfl rfl rfl h1 h2 h3 h4 h5 (fun _ _ => rfl) hR.1 ?_ hd (fun H1 lo1 P1 D1 S1 => ?_)
  · have e1 : (nativeFrameWords "java/lang/System" "arraycopy" 5 + 11) = 18 := by decide
    have e2 : ((st.map (cv G)).map fun v => v.category) = st.map fun v => v.category := by rw [List.map_map]; exact List.map_congr_left (fun v _ => cv_cat G v)
    rw [e1, e2]
    exact hR.2
  · rw [wsO_cLa hk2 hn2] at P1
    exact h p l e s m a b me c G H1 lo1 rl C K P1 S1 L
def mxI (x y : Int32) : Int32 := if x < y then y else x
def mnI (x y : Int32) : Int32 := if y < x then y else x
def abI (x : Int32) : Int32 := if 0 ≤ x then x else 0 - x
theorem st_cat {G : Gx} {st : List Value} {n k : Nat} (h : (st.map fun v => v.category).sum + k ≤ n) : ((st.map (cv G)).map fun v => v.category).sum + k ≤ n := by
  have e2 : ((st.map (cv G)).map fun v => v.category) = st.map fun v => v.category := by rw [List.map_map]; exact List.map_congr_left (fun v _ => cv_cat G v)
  rw [e2]
  exact h
theorem E_max {idx : Nat} {x y : Int32} (hd : decode cc pc = .ok (.invokestatic idx, 3)) (hw : Cond.methodLink own idx Lib.Math.max.name ∈ Tg) (hw2 : Cond.static Lib.Math.max.name ∈ Tg) (hw3 : Cond.initialized "java/lang/Math" ∈ Tg) (hw4 : Cond.code Lib.Math.max.name Lib.Math.max.code 2 (some .int) ∈ Tg) (hR : 1 ≤ R.frames ∧ (st.map fun v => v.category).sum + 13 ≤ R.locals) (h : Ev cc nL rt own R (pc + 3) ls (.int (mxI x y) :: st) σ Q) : Ev cc nL rt own R pc ls (.int y :: .int x :: st) σ Q :=
  fun p l e s m a b me c G H lo rl C K P S L => va_mmax C.1 C.2.1 (by rw [C.2.2.2.1]; exact L.1.symm) C.2.2.2.2.1 (C.2.2.2.2.2.1 _ hw) (C.2.2.2.2.2.1 _ hw2) (C.2.2.2.2.2.1 _ hw3) (C.2.2.2.2.2.1 _ hw4) hR.1 (st_cat hR.2) (Nat.zero_le _) (Nat.zero_le _) hd (h p l e s m a b me c G H lo rl C K P S L)
theorem E_min {idx : Nat} {x y : Int32} (hd : decode cc pc = .ok (.invokestatic idx, 3)) (hw : Cond.methodLink own idx Lib.Math.min.name ∈ Tg) (hw2 : Cond.static Lib.Math.min.name ∈ Tg) (hw3 : Cond.initialized "java/lang/Math" ∈ Tg) (hw4 : Cond.code Lib.Math.min.name Lib.Math.min.code 2 (some .int) ∈ Tg) (hR : 1 ≤ R.frames ∧ (st.map fun v => v.category).sum + 13 ≤ R.locals) (h : Ev cc nL rt own R (pc + 3) ls (.int (mnI x y) :: st) σ Q) : Ev cc nL rt own R pc ls (.int y :: .int x :: st) σ Q :=
  fun p l e s m a b me c G H lo rl C K P S L => va_mmin C.1 C.2.1 (by rw [C.2.2.2.1]; exact L.1.symm) C.2.2.2.2.1 (C.2.2.2.2.2.1 _ hw) (C.2.2.2.2.2.1 _ hw2) (C.2.2.2.2.2.1 _ hw3) (C.2.2.2.2.2.1 _ hw4) hR.1 (st_cat hR.2) (Nat.zero_le _) (Nat.zero_le _) hd (h p l e s m a b me c G H lo rl C K P S L)
theorem E_abs {idx : Nat} {x : Int32} (hd : decode cc pc = .ok (.invokestatic idx, 3)) (hw : Cond.methodLink own idx Lib.Math.abs.name ∈ Tg) (hw2 : Cond.static Lib.Math.abs.name ∈ Tg) (hw3 : Cond.initialized "java/lang/Math" ∈ Tg) (hw4 : Cond.code Lib.Math.abs.name Lib.Math.abs.code 1 (some .int) ∈ Tg) (hR : 1 ≤ R.frames ∧ (st.map fun v => v.category).sum + 13 ≤ R.locals) (h : Ev cc nL rt own R (pc + 3) ls (.int (abI x) :: st) σ Q) : Ev cc nL rt own R pc ls (.int x :: st) σ Q :=
  fun p l e s m a b me c G H lo rl C K P S L => va_mabs C.1 C.2.1 (by rw [C.2.2.2.1]; exact L.1.symm) C.2.2.2.2.1 (C.2.2.2.2.2.1 _ hw) (C.2.2.2.2.2.1 _ hw2) (C.2.2.2.2.2.1 _ hw3) (C.2.2.2.2.2.1 _ hw4) hR.1 (st_cat hR.2) (Nat.zero_le _) (Nat.zero_le _) hd (h p l e s m a b me c G H lo rl C K P S L)
/-- what a call of y asks of the tables -/
def ClO (own : String) (idx : Nat) (y : MethodName) (cc' : ByteArray) (nL' : Nat) (rt' : Option FieldType) (n : Nat) : Prop := Cond.methodLink own idx y ∈ Tg ∧ Cond.initialized y.cls ∈ Tg ∧ Cond.code y cc' nL' rt' ∈ Tg ∧ (y.cls ≠ "java/lang/invoke/MethodHandle" ∧ y.cls ≠ "java/lang/invoke/VarHandle" ∧ (parseMethodDescriptor y.desc).map (fun d => d.parameters.length) = some n)
def RmO (R' R : Room) (nL' : Nat) : Prop := R'.cells = 0 ∧ R'.slots = 0 ∧ R'.frames + 1 ≤ R.frames ∧ 8 + (nL' + 11) + R'.locals ≤ R.locals
theorem E_cont {p : Program} {l : Launch} {e : Env} {s : State} {m : MethodId} {args : Array Value} {below : List Frame} {meth : Method} {c : Code} {G : Gx} {H : Heap} {locs : List Loc} {rl : Array Slot} {st0 : List Value} {Q' : Option Value → St → Prop} {a1 : Array Value} {rest : List Value}
    (hr : va_Run p l e R s m args below meth c H locs 0 0 0 0 (F0 m pc rl st0) (rest.map (cv G)) (QcO G Q' a1) (Aw G))
    (C : CxO p s m args meth c cc nL rt own) (K : Kx G s) (S : va_S (Aw G) s.heap H locs) (L : lvO G rl nL ls)
    (h : ∀ r σ1, Q' r σ1 → Ev cc nL rt own R (pc + 3) ls (r.toList ++ rest) σ1 Q) : W p l e R s m args below meth c H locs 0 0 (MQ below (QcO G Q) args s 0 0 (Aw G)) (F0 m pc rl st0) := by
  intro T hT X
  obtain ⟨v, st₀, t, T', L1, h0, X', hL, e1, e2, ⟨⟨r, σ1, hv, hq, hP⟩, hz, hk⟩, go⟩ := hr T hT X
  cases hv
  rw [h0] at hz hk
  have S1 : va_S (Aw G) s.heap T'.heap (locs ++ L1) := ⟨Nat.le_trans S.1 (by rw [e1]; exact hz), fun q g1 g2 => by rw [e1, hk q (Nat.lt_of_lt_of_le g1 S.1) g2]; exact S.2.1 q g1 g2, fun q hq => by
      rcases List.mem_append.mp hq with z | z
      · exact S.2.2 q z
      · exact hL q z⟩
  have h' := h r σ1 hq p l e s m args below meth c G T'.heap (locs ++ L1) rl C K (by rw [e1]; exact hP) S1 L
  have es : (r.toList ++ rest).map (cv G) = (r.map (cv G)).toList ++ rest.map (cv G) := by cases r <;> simp
  rw [es] at h'
  obtain ⟨t2, a2, b2⟩ := h' T' rfl X'
  exact ⟨t2, go t2 a2, b2⟩
theorem cat_le {G : Gx} {m : MethodId} {rl : Array Slot} {s0 rest : List Value} (h : (rest.map fun v => v.category).sum ≤ 8) : 2 * (F0 m pc rl s0).monitorRoom + ((rest.map (cv G)).map fun v => v.category).sum ≤ 8 := by
  have e2 : ((rest.map (cv G)).map fun v => v.category) = rest.map fun v => v.category := by rw [List.map_map]; exact List.map_congr_left (fun v _ => cv_cat G v)
  rw [e2]
  exact lv_room (m := m) (pc := pc) (ls := rl) (rest := s0) h
theorem tg_all {args : Array Value} {s : State} (ht : ∀ w ∈ Tg, w.before args s = true) : ∀ w ∈ Tg, ∀ (a' : Array Value) (U : State), s.WarmedH U.vm → w.before a' U = true := fun w hw a' U hW => word_at hW (tg_good w hw) (ht w hw)
theorem E_callS {y : MethodName} {cc' : ByteArray} {nL' n idx : Nat} {rt' : Option FieldType} {R' : Room} {As rest s0 : List Value} {Q' : Option Value → St → Prop} (hd : decode cc pc = .ok (.invokestatic idx, 3)) (hC : ClO own idx y cc' nL' rt' n) (hs : Cond.static y ∈ Tg) (hR : RmO R' R nL') (hn : As.length = n) (h0 : As.reverse ++ rest = s0) (h8 : (rest.map fun v => v.category).sum ≤ 8)
    (hM : Mt y cc' nL' rt' R' As σ Q') (h : ∀ r σ1, Q' r σ1 → Ev cc nL rt own R (pc + 3) ls (r.toList ++ rest) σ1 Q) : Ev cc nL rt own R pc ls s0 σ Q := by
  intro p l e s m a b me c G H lo rl C K P S L
  subst h0
  obtain ⟨w1, w2, w3, w4, w5, w6⟩ := hC
  have hT := C.2.2.2.2.2.1
  refine E_cont (va_runS (As := As.map (cv G)) (rest := rest.map (cv G)) (Ts := Tg) (own := own) (nL := nL) (cc := cc) (n := n) ⟨C.1, C.2.1, C.2.2.2.1, C.2.2.2.2.1, hT⟩ (hM l G) ⟨⟨hR.1, hR.2.1, hR.2.2.1, hR.2.2.2, fun w hw => (List.mem_cons.mp hw).elim (fun z => by rw [z]; exact tg_all hT _ w3) (fun z => tg_all hT w z), List.mem_cons_self, hT _ w3, hT _ w2, ⟨w4, w5⟩, fun sig z => ?_, hT _ w1⟩, hT _ hs⟩
    ⟨fun a' U g mk q => ⟨q.1, q.2.1, q.2.2.blind g mk a'⟩, fun U hU hW => ⟨rfl, by rw [hU]; exact P, K.to S hU hW⟩⟩ rfl (by simpa using hn) L.1 (by simp) (cat_le h8) hd ⟨Nat.zero_le _, Nat.zero_le _⟩) C K S L h
  rw [z] at w6
  exact (Option.some.inj w6).symm
theorem E_callV {y : MethodName} {cc' : ByteArray} {nL' n idx k ci : Nat} {rt' : Option FieldType} {R' : Room} {As rest s0 : List Value} {Q' : Option Value → St → Prop} {Cn : vw_C} (hd : decode cc pc = .ok (.invokevirtual idx, 3)) (hC : ClO own idx y cc' nL' rt' n) (hi : Cond.instanceMethod y ∈ Tg) (hk : kd k = ci) (h8c : ci < 8) (hcl : clsL[ci]? = some Cn) (hs : Cond.selects Cn.1 y y ∈ Tg) (hR : RmO R' R nL') (hn : As.length = n) (h0 : As.reverse ++ .ref k :: rest = s0) (h8 : (rest.map fun v => v.category).sum ≤ 8)
    (hM : Mt y cc' nL' rt' R' (.ref k :: As) σ Q') (h : ∀ r σ1, Q' r σ1 → Ev cc nL rt own R (pc + 3) ls (r.toList ++ rest) σ1 Q) : Ev cc nL rt own R pc ls s0 σ Q := by
  intro p l e s m a b me c G H lo rl C K P S L
  subst h0
  obtain ⟨w1, w2, w3, w4, w5, w6⟩ := hC
  have hT := C.2.2.2.2.2.1
  have hM1 := hM l G
  simp only [List.map_cons, cv_cell (G := G) (k := k) (by omega)] at hM1
  refine E_cont (a1 := (Value.ref (adO G k) :: As.map (cv G)).toArray) (va_runV (C := Cn.1) (b := adO G k) (As := As.map (cv G)) (rest := rest.map (cv G)) (Ts := Tg) (own := own) (nL := nL) (cc := cc) (n := n) ⟨C.1, C.2.1, C.2.2.2.1, C.2.2.2.2.1, hT⟩ hM1 ⟨⟨hR.1, hR.2.1, hR.2.2.1, hR.2.2.2, fun w hw => (List.mem_cons.mp hw).elim (fun z => by rw [z]; exact tg_all hT _ w3) (fun z => tg_all hT w z), List.mem_cons_self, hT _ w3, hT _ w2, ⟨w4, w5⟩, fun sig z => ?_, hT _ w1⟩, hT _ hi, hT _ hs⟩
    ⟨fun a' U g mk q => ⟨q.1, q.2.1, q.2.2.blind g mk a'⟩, va_recv K.1 P (ci := ci) (q0 := k) hcl (wsO_obj hk h8c), fun U hU hW => ⟨rfl, by rw [hU]; exact P, K.to S hU hW⟩⟩ rfl (by simpa using hn) L.1 (by simp [cv_cell (G := G) (k := k) (by omega)]) (cat_le h8) hd ⟨Nat.zero_le _, Nat.zero_le _⟩) C K S L h
  rw [z] at w6
  exact (Option.some.inj w6).symm
/-- a call on a text -/
theorem E_callT {y : MethodName} {cc' : ByteArray} {nL' n idx i : Nat} {rt' : Option FieldType} {R' : Room} {As rest s0 : List Value} {Q' : Option Value → St → Prop} (hd : decode cc pc = .ok (.invokevirtual idx, 3)) (hC : ClO own idx y cc' nL' rt' n) (hin : Cond.instanceMethod y ∈ Tg) (hi : i < stN) (hs : Cond.selects "java/lang/String" y y ∈ Tg) (hR : RmO R' R nL') (hn : As.length = n) (h0 : As.reverse ++ .ref (300 + i) :: rest = s0) (h8 : (rest.map fun v => v.category).sum ≤ 8)
    (hM : Mt y cc' nL' rt' R' (.ref (300 + i) :: As) σ Q') (h : ∀ r σ1, Q' r σ1 → Ev cc nL rt own R (pc + 3) ls (r.toList ++ rest) σ1 Q) : Ev cc nL rt own R pc ls s0 σ Q := by
  intro p l e s m a b me c G H lo rl C K P S L
  subst h0
  obtain ⟨w1, w2, w3, w4, w5, w6⟩ := hC
  have hT := C.2.2.2.2.2.1
  have ev : cv G (.ref (300 + i)) = .ref (adO G (300 + i))   := cv_ref (by have : stN = 14 := rfl; omega)
  have hM1 := hM l G
  simp only [List.map_cons, ev] at hM1
  refine E_cont (a1 := (Value.ref (adO G (300 + i)) :: As.map (cv G)).toArray) (va_runV (C := "java/lang/String") (b := adO G (300 + i)) (As := As.map (cv G)) (rest := rest.map (cv G)) (Ts := Tg) (own := own) (nL := nL) (cc := cc) (n := n) ⟨C.1, C.2.1, C.2.2.2.1, C.2.2.2.2.1, hT⟩ hM1 ⟨⟨hR.1, hR.2.1, hR.2.2.1, hR.2.2.2, fun w hw => (List.mem_cons.mp hw).elim (fun z => by rw [z]; exact tg_all hT _ w3) (fun z => tg_all hT w z), List.mem_cons_self, hT _ w3, hT _ w2, ⟨w4, w5⟩, fun sig z => ?_, hT _ w1⟩, hT _ hin, hT _ hs⟩
    ⟨fun a' U g mk q => ⟨q.1, q.2.1, q.2.2.blind g mk a'⟩, vk_recv (i := i) (adK := fun i => adO G (300 + i)) K.2.2.2.2.2.2.1 hi S, fun U hU hW => ⟨rfl, by rw [hU]; exact P, K.to S hU hW⟩⟩ rfl (by simpa using hn) L.1 (by simp [ev]) (cat_le h8) hd ⟨Nat.zero_le _, Nat.zero_le _⟩) C K S L h
  rw [z] at w6
  exact (Option.some.inj w6).symm
/-- WallDown.isWithin out of WallDown$Tape: a nest mate's -/
theorem E_callN {cc' : ByteArray} {nL' n : Nat} {rt' : Option FieldType} {R' : Room} {As rest s0 : List Value} {Q' : Option Value → St → Prop} (ho : own = "WallDown$Tape") (hd : decode cc pc = .ok (.invokestatic 53, 3)) (w2 : Cond.initialized yX6_isWithin.cls ∈ Tg) (w3 : Cond.code yX6_isWithin cc' nL' rt' ∈ Tg) (w4 : yX6_isWithin.cls ≠ "java/lang/invoke/MethodHandle" ∧ yX6_isWithin.cls ≠ "java/lang/invoke/VarHandle" ∧ (parseMethodDescriptor yX6_isWithin.desc).map (fun d => d.parameters.length) = some n) (hs : Cond.static yX6_isWithin ∈ Tg) (hR : RmO R' R nL') (hn : As.length = n) (h0 : As.reverse ++ rest = s0) (h8 : (rest.map fun v => v.category).sum ≤ 8)
    (hM : Mt yX6_isWithin cc' nL' rt' R' As σ Q') (h : ∀ r σ1, Q' r σ1 → Ev cc nL rt own R (pc + 3) ls (r.toList ++ rest) σ1 Q) : Ev cc nL rt own R pc ls s0 σ Q := by
  intro p l e s m a b me c G H lo rl C K P S L
  subst h0
  subst ho
  have hT := C.2.2.2.2.2.1
  refine E_cont (va_runSN (As := As.map (cv G)) (rest := rest.map (cv G)) (Ts := Tg) (own := "WallDown$Tape") (nL := nL) (cc := cc) (n := n) ⟨C.1, C.2.1, C.2.2.2.1, C.2.2.2.2.1, hT⟩ (hM l G) ⟨⟨⟨hR.1, hR.2.1, hR.2.2.1, hR.2.2.2, fun w hw => (List.mem_cons.mp hw).elim (fun z => by rw [z]; exact tg_all hT _ w3) (fun z => tg_all hT w z), List.mem_cons_self⟩, hT _ w3, hT _ w2, ⟨w4.1, w4.2.1⟩, fun sig z => ?_, va_Nw.use rfl K.2.2.1⟩, hT _ hs, trivial⟩
    ⟨fun a' U g mk q => ⟨q.1, q.2.1, q.2.2.blind g mk a'⟩, fun U hU hW => ⟨rfl, by rw [hU]; exact P, K.to S hU hW⟩⟩ rfl (by simpa using hn) L.1 (by simp) (cat_le h8) hd ⟨Nat.zero_le _, Nat.zero_le _⟩) C K S L h
  have w6 := w4.2.2
  rw [z] at w6
  exact (Option.some.inj w6).symm
/-- ends -/
theorem E_iret {x : Int32} (hd : decode cc pc = .ok (.ireturn, 1)) (hr : rt = some .int) (h : Q (some (.int x)) σ) : Ev cc nL rt own R pc ls [.int x] σ Q :=
  fun p l e s m a b me c G H lo rl C K P S L => W.iret (v := x) C.1 C.2.1 (C.2.2.1.trans hr) (fun t ht hW => ⟨⟨some (.int x), σ, rfl, h, by rw [ht]; exact P⟩, S.F ht⟩) S.2.2 hd C.2.2.2.2.2.2
theorem E_nret {x : Int32} {ty : FieldType} (hd : decode cc pc = .ok (.ireturn, 1)) (hr : rt = some ty) (hx : narrow ty (.int x) = .int x) (h : Q (some (.int x)) σ) : Ev cc nL rt own R pc ls [.int x] σ Q :=
  fun p l e s m a b me c G H lo rl C K P S L => W.zret (v := x) C.1 C.2.1 (C.2.2.1.trans hr) hx (fun t ht hW => ⟨⟨some (.int x), σ, rfl, h, by rw [ht]; exact P⟩, S.F ht⟩) S.2.2 hd C.2.2.2.2.2.2
theorem E_lret {x : Int64} (hd : decode cc pc = .ok (.lreturn, 1)) (hr : rt = some .long) (h : Q (some (.long x)) σ) : Ev cc nL rt own R pc ls [.long x] σ Q :=
  fun p l e s m a b me c G H lo rl C K P S L => W.lret (v := x) C.1 C.2.1 (C.2.2.1.trans hr) (fun t ht hW => ⟨⟨some (.long x), σ, rfl, h, by rw [ht]; exact P⟩, S.F ht⟩) S.2.2 hd C.2.2.2.2.2.2
theorem E_vret (hd : decode cc pc = .ok (.return_, 1)) (hr : rt = none) (h : Q none σ) : Ev cc nL rt own R pc ls [] σ Q :=
  fun p l e s m a b me c G H lo rl C K P S L => W.vret C.1 C.2.1 (C.2.2.1.trans hr) (fun t ht hW => ⟨⟨none, σ, rfl, h, by rw [ht]; exact P⟩, S.F ht⟩) S.2.2 hd C.2.2.2.2.2.2
theorem E_aret {x : Nat} {n : String} (hd : decode cc pc = .ok (.areturn, 1)) (hr : rt = some (.object n)) (h : Q (some (.ref x)) σ) : Ev cc nL rt own R pc ls [.ref x] σ Q :=
  fun p l e s m a b me c G H lo rl C K P S L => W.aret (v := cv G (.ref x)) C.1 C.2.1 (C.2.2.1.trans hr) (Or.inl ⟨n, rfl⟩) (by by_cases z : x = 999; exact Or.inl (if_pos z); exact Or.inr ⟨_, if_neg z⟩) (fun t ht hW => ⟨⟨some (.ref x), σ, rfl, h, by rw [ht]; exact P⟩, S.F ht⟩) S.2.2 hd C.2.2.2.2.2.2
end EH
/-- answers by their kinds -/
def qI (Q : Int32 → St → Prop) : Option Value → St → Prop := fun r σ => ∃ x, r = some (.int x) ∧ Q x σ
def qL (Q : Int64 → St → Prop) : Option Value → St → Prop := fun r σ => ∃ x, r = some (.long x) ∧ Q x σ
def qV (Q : St → Prop) : Option Value → St → Prop := fun r σ => r = none ∧ Q σ
def qR (Q : Nat → St → Prop) : Option Value → St → Prop := fun r σ => ∃ x, r = some (.ref x) ∧ Q x σ
