/-! THE SMALL STORE. After the two constructors nothing is made any more: 65 cells, whose references never change. A state is what their ints and longs hold, by cell and slot. -/
abbrev St : Type := (Nat → Nat → Int32) × (Nat → Nat → Int64)
def gI (σ : St) (a j : Nat) : Int32 := σ.1 a j
def gL (σ : St) (a j : Nat) : Int64 := σ.2 a j
def sI (σ : St) (a j : Nat) (v : Int32) : St := (fun b => if b = a then upd (σ.1 b) j v else σ.1 b, σ.2)
def sL (σ : St) (a j : Nat) (v : Int64) : St := (σ.1, fun b => if b = a then vp_updL (σ.2 b) j v else σ.2 b)
/-- a run of ints, of longs, copied -/
def cI (σ : St) (a : Nat) (i : Nat) (d : Nat) (j : Nat) (n : Nat) : St := (fun b => if b = d then va_cpy (σ.1 a) (σ.1 d) i j n else σ.1 b, σ.2)
def cL (σ : St) (a : Nat) (i : Nat) (d : Nat) (j : Nat) (n : Nat) : St := (σ.1, fun b => if b = d then va_cpy (σ.2 a) (σ.2 d) i j n else σ.2 b)
/-- the kind of each cell: 0 to 7 an object of that class, 8 ints, 9 longs, 10 booleans, 11 sheets -/
def kdL : List Nat := [6, 0,8,8,8,8,8, 0,8,8,8,8,8, 0,8,8,8,8,8, 3,8,8,8, 1,9,8, 5,4,8, 0,8,8,8,8,8, 3,8,8,8, 11, 8, 2,9, 2,9, 2,9, 2,9, 7, 8,8,8,8,9,8,10,8,8,8,8,9,9,8,8]
def lnL : List Nat := [0, 0,28,28,28,4,4, 0,28,28,28,4,4, 0,28,28,28,4,4, 0,32,32,32, 0,4096,29, 0,0,120, 0,28,28,28,4,4, 0,32,32,32, 4, 7, 0,40, 0,40, 0,40, 0,40, 0, 96,7,32,32,4096,4096,4096,4096,120,4,4,160,40,96,96]
def kd (k : Nat) : Nat := kdL.getD k 99
def ln (k : Nat) : Nat := lnL.getD k 0
/-- a class's fields: (0, d) a reference to the cell d further on, (1, 0) an int, (2, 0) a boolean, (3, 0) a long -/
def fl (c : Nat) : List (Nat × Nat) := match c with
  | 0 => [(0,1),(0,2),(0,3),(0,4),(0,5),(1,0),(1,0),(1,0),(1,0)]
  | 1 => [(0,1),(0,2)]
  | 2 => [(0,1),(1,0),(1,0)]
  | 3 => [(0,1),(0,2),(0,3),(1,0),(1,0),(1,0)]
  | 4 => [(0,1),(1,0),(1,0),(1,0),(1,0),(1,0)]
  | 5 => [(0,1),(0,3),(0,9)]
  | 6 => [(0,1),(0,7),(0,13),(0,19),(0,23),(0,26),(0,39),(0,40),(2,0)]
  | _ => [(0,1),(0,2),(0,3),(0,4),(0,5),(0,6),(0,7),(0,8),(0,9),(1,0),(1,0),(1,0),(1,0),(3,0),(1,0),(2,0),(0,10),(0,11),(0,12),(0,13),(0,14),(0,15),(2,0)]
abbrev clsL : List vw_C := [(RX0, TX0, 9), (RX1, TX1, 2), (RX2, TX2, 3), (RX3, TX3, 6), (RX4, TX4, 6), (RX5, TX5, 3), (RX6, TX6, 9), (RX7, TX7, 23)]
/-- where it all lies in a heap: the tables' class numbers, the array classes of int, long, boolean, Sheet, the address of each cell (from 200 on: what lies outside) -/
abbrev Gx : Type := va_G × (ClassId × ClassId × ClassId × ClassId) × (Nat → Nat)
def adO (G : Gx) : Nat → Nat := G.2.2
def tysO (G : Gx) : List (ClassId × FieldType) := [(G.2.1.1, .int), (G.2.1.2.1, .long), (G.2.1.2.2.1, .boolean), (G.2.1.2.2.2, .object "WallDown$Sheet")]
def fvO (G : Gx) (σ : St) (k : Nat) (j : Nat) (f : Nat × Nat) : Value := if f.1 = 0 then .ref (adO G (k + f.2)) else if f.1 = 3 then .long (σ.2 k j) else .int (σ.1 k j)
def fsO (G : Gx) (σ : St) (k : Nat) : List Value := (fl (kd k)).mapIdx (fun j f => fvO G σ k j f)
def ceO (G : Gx) (σ : St) (k : Nat) : va_E :=
  if kd k < 8 then .inr (kd k, fsO G σ k)
  else if kd k = 8 then .inl (G.2.1.1, ln k, .inl (σ.1 k))
  else if kd k = 9 then .inl (G.2.1.2.1, ln k, .inr (.inl (σ.2 k)))
  else if kd k = 10 then .inl (G.2.1.2.2.1, ln k, .inl (σ.1 k))
  else .inl (G.2.1.2.2.2, ln k, .inr (.inr (.inr (.inr (fun j => some (adO G (k + 2 + 2 * j)))))))
def wsO (G : Gx) (σ : St) : va_W := (List.range 65).map (fun k => (adO G k, ceO G σ k))
def Aw (G : Gx) : Nat → Prop := fun q => ∃ k, k < 65 ∧ q = adO G k
theorem kd_lt {k : Nat} (h : kd k < 12) : k < 65 := by
  by_cases h1 : k < 65
  · exact h1
  · have e : kd k = 99 := by
      unfold kd
      rw [List.getD_eq_getElem?_getD, List.getElem?_eq_none (by show kdL.length ≤ k; have : kdL.length = 65 := by decide +kernel
                                                                omega)]
      rfl
    omega
theorem wsO_at {G : Gx} {σ : St} {k : Nat} (h : k < 65) : (wsO G σ)[k]? = some (adO G k, ceO G σ k) := by
  unfold wsO
  rw [List.getElem?_map, List.getElem?_range h]
  rfl
theorem wsO_obj {G : Gx} {σ : St} {k c : Nat} (h : kd k = c) (hc : c < 8) : (wsO G σ)[k]? = some (adO G k, .inr (c, fsO G σ k)) := by
  rw [wsO_at (kd_lt (by omega))]
  unfold ceO
  rw [if_pos (by omega), h]
theorem wsO_int {G : Gx} {σ : St} {k n : Nat} (h : kd k = 8) (hn : ln k = n) : (wsO G σ)[k]? = some (adO G k, .inl (G.2.1.1, n, .inl (σ.1 k))) := by
  rw [wsO_at (kd_lt (by omega))]
  unfold ceO
  rw [if_neg (by omega), if_pos h, hn]
theorem wsO_long {G : Gx} {σ : St} {k n : Nat} (h : kd k = 9) (hn : ln k = n) : (wsO G σ)[k]? = some (adO G k, .inl (G.2.1.2.1, n, .inr (.inl (σ.2 k)))) := by
  rw [wsO_at (kd_lt (by omega))]
  unfold ceO
  rw [if_neg (by omega), if_neg (by omega), if_pos h, hn]
theorem wsO_bool {G : Gx} {σ : St} {k n : Nat} (h : kd k = 10) (hn : ln k = n) : (wsO G σ)[k]? = some (adO G k, .inl (G.2.1.2.2.1, n, .inl (σ.1 k))) := by
  rw [wsO_at (kd_lt (by omega))]
  unfold ceO
  rw [if_neg (by omega), if_neg (by omega), if_neg (by omega), if_pos h, hn]
theorem wsO_sheets {G : Gx} {σ : St} {k n : Nat} (h : kd k = 11) (hn : ln k = n) : (wsO G σ)[k]? = some (adO G k, .inl (G.2.1.2.2.2, n, .inr (.inr (.inr (.inr (fun j => some (adO G (k + 2 + 2 * j)))))))) := by
  rw [wsO_at (kd_lt (by omega))]
  unfold ceO
  rw [if_neg (by omega), if_neg (by omega), if_neg (by omega), if_neg (by omega), hn]
theorem wsO_set {G : Gx} {σ σ' : St} {k : Nat} (hk : k < 65) (hs : ∀ j, j ≠ k → ceO G σ' j = ceO G σ j) : (wsO G σ).set k (adO G k, ceO G σ' k) = wsO G σ' := by
  apply List.ext_getElem?
  intro i
  rw [List.getElem?_set]
  by_cases hi : i < 65
  · rw [wsO_at hi, wsO_at hi]
    by_cases e : k = i
    · subst e
      rw [if_pos rfl, if_pos (by simp [wsO]; exact hk)]
    · rw [if_neg e, hs i (fun z => e z.symm)]
  · have h1 : (wsO G σ)[i]? = none := List.getElem?_eq_none (by simp [wsO]; omega)
    have h2 : (wsO G σ')[i]? = none := List.getElem?_eq_none (by simp [wsO]; omega)
    rw [h1, h2, if_neg (by omega)]
theorem ceO_sI {G : Gx} {σ : St} {a j : Nat} {v : Int32} (k : Nat) (hk : k ≠ a) : ceO G (sI σ a j v) k = ceO G σ k := by
  have e1 : (sI σ a j v).1 k = σ.1 k := by simp [sI, hk]
  have e2 : (sI σ a j v).2 = σ.2 := rfl
  simp only [ceO, fsO, fvO, e1, e2]
theorem ceO_sL {G : Gx} {σ : St} {a j : Nat} {v : Int64} (k : Nat) (hk : k ≠ a) : ceO G (sL σ a j v) k = ceO G σ k := by
  have e1 : (sL σ a j v).2 k = σ.2 k := by simp [sL, hk]
  have e2 : (sL σ a j v).1 = σ.1 := rfl
  simp only [ceO, fsO, fvO, e1, e2]
theorem ceO_cI {G : Gx} {σ : St} {a i d j n : Nat} (k : Nat) (hk : k ≠ d) : ceO G (cI σ a i d j n) k = ceO G σ k := by
  have e1 : (cI σ a i d j n).1 k = σ.1 k := by simp [cI, hk]
  have e2 : (cI σ a i d j n).2 = σ.2 := rfl
  simp only [ceO, fsO, fvO, e1, e2]
theorem ceO_cL {G : Gx} {σ : St} {a i d j n : Nat} (k : Nat) (hk : k ≠ d) : ceO G (cL σ a i d j n) k = ceO G σ k := by
  have e1 : (cL σ a i d j n).2 k = σ.2 k := by simp [cL, hk]
  have e2 : (cL σ a i d j n).1 = σ.1 := rfl
  simp only [ceO, fsO, fvO, e1, e2]
/-- a store of an int into an array -/
theorem wsO_sIa {G : Gx} {σ : St} {a j n : Nat} {v : Int32} (h : kd a = 8) (hn : ln a = n) : (wsO G σ).set a (adO G a, .inl (G.2.1.1, n, .inl (upd (σ.1 a) j v))) = wsO G (sI σ a j v) := by
  rw [← wsO_set (kd_lt (by omega)) (σ := σ) (fun k hk => ceO_sI k hk)]
  congr 2
  unfold ceO
  rw [if_neg (by omega), if_pos h, hn]
  simp [sI]
theorem wsO_sIz {G : Gx} {σ : St} {a j n : Nat} {v : Int32} (h : kd a = 10) (hn : ln a = n) : (wsO G σ).set a (adO G a, .inl (G.2.1.2.2.1, n, .inl (upd (σ.1 a) j v))) = wsO G (sI σ a j v) := by
  rw [← wsO_set (kd_lt (by omega)) (σ := σ) (fun k hk => ceO_sI k hk)]
  congr 2
  unfold ceO
  rw [if_neg (by omega), if_neg (by omega), if_neg (by omega), if_pos h, hn]
  simp [sI]
theorem wsO_sLa {G : Gx} {σ : St} {a j n : Nat} {v : Int64} (h : kd a = 9) (hn : ln a = n) : (wsO G σ).set a (adO G a, .inl (G.2.1.2.1, n, .inr (.inl (vp_updL (σ.2 a) j v)))) = wsO G (sL σ a j v) := by
  rw [← wsO_set (kd_lt (by omega)) (σ := σ) (fun k hk => ceO_sL k hk)]
  congr 2
  unfold ceO
  rw [if_neg (by omega), if_neg (by omega), if_pos h, hn]
  simp [sL]
theorem wsO_cIa {G : Gx} {σ : St} {a i d j c n : Nat} (h : kd d = 8) (hn : ln d = n) : (wsO G σ).set d (adO G d, .inl (G.2.1.1, n, .inl (va_cpy (σ.1 a) (σ.1 d) i j c))) = wsO G (cI σ a i d j c) := by
  rw [← wsO_set (kd_lt (by omega)) (σ := σ) (fun k hk => ceO_cI k hk)]
  congr 2
  unfold ceO
  rw [if_neg (by omega), if_pos h, hn]
  simp [cI]
theorem wsO_cLa {G : Gx} {σ : St} {a i d j c n : Nat} (h : kd d = 9) (hn : ln d = n) : (wsO G σ).set d (adO G d, .inl (G.2.1.2.1, n, .inr (.inl (va_cpy (σ.2 a) (σ.2 d) i j c)))) = wsO G (cL σ a i d j c) := by
  rw [← wsO_set (kd_lt (by omega)) (σ := σ) (fun k hk => ceO_cL k hk)]
  congr 2
  unfold ceO
  rw [if_neg (by omega), if_neg (by omega), if_pos h, hn]
  simp [cL]
theorem fsO_len (G : Gx) (σ : St) (k : Nat) : (fsO G σ k).length = (fl (kd k)).length := by simp [fsO]
theorem fsO_at {G : Gx} {σ : St} {k c j : Nat} {f : Nat × Nat} (h : kd k = c) (hf : (fl c)[j]? = some f) : (fsO G σ k)[j]? = some (fvO G σ k j f) := by
  unfold fsO
  rw [List.getElem?_mapIdx, h, hf]
  rfl
/-- a store of an int into a field -/
theorem wsO_sIf {G : Gx} {σ : St} {a c j : Nat} {f : Nat × Nat} {v : Int32} (h : kd a = c) (hc : c < 8) (hf : (fl c)[j]? = some f) (h1 : f.1 = 1 ∨ f.1 = 2) : (wsO G σ).set a (adO G a, .inr (c, (fsO G σ a).set j (.int v))) = wsO G (sI σ a j v) := by
  rw [← wsO_set (kd_lt (by omega)) (σ := σ) (fun k hk => ceO_sI k hk)]
  congr 2
  unfold ceO
  rw [if_pos (by omega), h]
  congr 2
  apply List.ext_getElem?
  intro i
  rw [List.getElem?_set]
  by_cases e : j = i
  · subst e
    rw [if_pos rfl, if_pos (by rw [fsO_len, h]; exact (List.getElem?_eq_some_iff.mp hf).1), fsO_at h hf]
    unfold fvO
    rw [if_neg (by omega), if_neg (by omega)]
    simp [sI, upd]
  · rw [if_neg e]
    unfold fsO
    rw [List.getElem?_mapIdx, List.getElem?_mapIdx]
    congr 1
    funext g
    simp only [fvO, sI, if_true]
    have e2 : upd (σ.1 a) j v i = σ.1 a i := if_neg (fun z => e z.symm)
    rw [e2]
theorem wsO_sLf {G : Gx} {σ : St} {a c j : Nat} {f : Nat × Nat} {v : Int64} (h : kd a = c) (hc : c < 8) (hf : (fl c)[j]? = some f) (h1 : f.1 = 3) : (wsO G σ).set a (adO G a, .inr (c, (fsO G σ a).set j (.long v))) = wsO G (sL σ a j v) := by
  rw [← wsO_set (kd_lt (by omega)) (σ := σ) (fun k hk => ceO_sL k hk)]
  congr 2
  unfold ceO
  rw [if_pos (by omega), h]
  congr 2
  apply List.ext_getElem?
  intro i
  rw [List.getElem?_set]
  by_cases e : j = i
  · subst e
    rw [if_pos rfl, if_pos (by rw [fsO_len, h]; exact (List.getElem?_eq_some_iff.mp hf).1), fsO_at h hf]
    unfold fvO
    rw [if_neg (by omega), if_pos (by omega)]
    simp [sL, vp_updL]
  · rw [if_neg e]
    unfold fsO
    rw [List.getElem?_mapIdx, List.getElem?_mapIdx]
    congr 1
    funext g
    simp only [fvO, sL, if_true]
    have e2 : vp_updL (σ.2 a) j v i = σ.2 a i := if_neg (fun z => e z.symm)
    rw [e2]
