/-! booleans, masks, names; what the tables say, word by word -/
def bI : Bool → Int32
  | true => 1
  | false => 0
def isB (x : Int32) : Prop := x = 0 ∨ x = 1
def nz (x : Int32) : Bool := decide (¬ x = 0)
theorem bI_or (b : Bool) : bI b = 0 ∨ bI b = 1 := by cases b <;> simp [bI]
theorem bI_nz {x : Int32} (h : isB x) : bI (nz x) = x := by rcases h with rfl | rfl <;> decide
theorem nar_b (b : Bool) : narrow .boolean (.int (bI b)) = .int (bI b) := by cases b <;> rfl
theorem nar_is {x : Int32} (h : isB x) : narrow .boolean (.int x) = .int x := by rcases h with rfl | rfl <;> rfl
def qB (Q : Bool → St → Prop) : Option Value → St → Prop := fun r σ => ∃ b, r = some (.int (bI b)) ∧ Q b σ
def qS (Q : Nat → St → Prop) : Option Value → St → Prop := fun r σ => ∃ i, i < stN ∧ r = some (.ref (300 + i)) ∧ Q i σ
theorem vp_c {i : Int32} {n : Nat} (h : decide (i < 0 ∨ n ≤ i.toNatClampNeg) = false) : vp_in i n := of_decide_eq_false h
theorem ne999 {k c : Nat} (h : kd k = c) (hc : c < 12) : k ≠ 999 := by have := kd_lt (k := k) (by omega); omega
def mask : List Bool → List Value → List Value
  | b :: bs, v :: vs => (if b then v else un) :: mask bs vs
  | _, _ => []
theorem mask_at : ∀ (bs : List Bool) (ls : List Value) (k : Nat) (v : Value), (mask bs ls)[k]? = some v → usd v = true → ls[k]? = some v := by
  intro bs
  induction bs with
  | nil => intro ls k v h; simp [mask] at h
  | cons b bs ih =>
    intro ls k v h hu
    cases ls with
    | nil => simp [mask] at h
    | cons w ls =>
      cases k with
      | zero =>
        simp only [mask, List.getElem?_cons_zero, Option.some.injEq] at h ⊢
        cases b with
        | true => exact h
        | false => rw [if_neg (by decide)] at h; rw [← h] at hu; cases hu
      | succ k =>
        simp only [mask, List.getElem?_cons_succ] at h ⊢
        exact ih ls k v h hu
section ES
variable {cc : ByteArray} {nL : Nat} {rt : Option FieldType} {own : String} {R : Room} {pc : Nat} {ls ls' st : List Value} {σ : St} {Q : Option Value → St → Prop}
theorem E_mask (bs : List Bool) (hm : mask bs ls = ls') (h : Ev cc nL rt own R pc ls' st σ Q) : Ev cc nL rt own R pc ls st σ Q :=
  fun p l e s m a b me c G H lo rl C K P S L => h p l e s m a b me c G H lo rl C K P S ⟨L.1, L.2.1, fun k v hk hu => L.2.2 k v (by subst hm; exact mask_at bs ls k v hk hu) hu⟩
theorem E_nm (h : ∀ s, s = σ → Ev cc nL rt own R pc ls st s Q) : Ev cc nL rt own R pc ls st σ Q := h σ rfl
theorem E_toB {x : Int32} (hb : isB x) (h : Ev cc nL rt own R pc ls (.int (bI (nz x)) :: st) σ Q) : Ev cc nL rt own R pc ls (.int x :: st) σ Q := by rw [bI_nz hb] at h; exact h
theorem E_ifz_eq {b : Bool} {off : Int} (tgt : Nat) (hd : decode cc pc = .ok (.ifCond .eq off, 3)) (ht : (pc : Int) + off = (tgt : Int)) (h1 : b = false → Ev cc nL rt own R tgt ls st σ Q) (h2 : b = true → Ev cc nL rt own R (pc + 3) ls st σ Q) : Ev cc nL rt own R pc ls (.int (bI b) :: st) σ Q :=
  E_if_eq tgt hd ht (fun z => h1 (by cases b; rfl; exact absurd z (by decide))) (fun z => h2 (by cases b; exact absurd rfl z; rfl))
theorem E_ifz_ne {b : Bool} {off : Int} (tgt : Nat) (hd : decode cc pc = .ok (.ifCond .ne off, 3)) (ht : (pc : Int) + off = (tgt : Int)) (h1 : b = true → Ev cc nL rt own R tgt ls st σ Q) (h2 : b = false → Ev cc nL rt own R (pc + 3) ls st σ Q) : Ev cc nL rt own R pc ls (.int (bI b) :: st) σ Q :=
  E_if_ne tgt hd ht (fun z => h1 (by cases b; exact absurd rfl z; rfl)) (fun z => h2 (by cases b; rfl; exact absurd z (by decide)))
end ES
theorem sh_at {k : Nat} {i : Int32} (h : kd k = 11) (hi : vp_in i 4) : kd (k + 2 + 2 * i.toNatClampNeg) = 2 := by
  have hk := kd_lt (k := k) (by omega)
  have hlt : i.toNatClampNeg < 4 := Nat.not_le.mp fun q => hi (Or.inr q)
  generalize i.toNatClampNeg = j at hlt
  have key : ∀ k, k < 65 → kd k = 11 → ∀ j, j < 4 → kd (k + 2 + 2 * j) = 2 := by decide +kernel
  exact key k hk h j hlt
theorem ar_0_1 {k : Nat} (h : kd k = 0) : kd (k + 1) = 8 ∧ ln (k + 1) = 28 := by
  have key : ∀ k, k < 65 → kd k = 0 → kd (k + 1) = 8 ∧ ln (k + 1) = 28 := by decide +kernel
  exact key k (kd_lt (by omega)) h
theorem ar_0_2 {k : Nat} (h : kd k = 0) : kd (k + 2) = 8 ∧ ln (k + 2) = 28 := by
  have key : ∀ k, k < 65 → kd k = 0 → kd (k + 2) = 8 ∧ ln (k + 2) = 28 := by decide +kernel
  exact key k (kd_lt (by omega)) h
theorem ar_0_3 {k : Nat} (h : kd k = 0) : kd (k + 3) = 8 ∧ ln (k + 3) = 28 := by
  have key : ∀ k, k < 65 → kd k = 0 → kd (k + 3) = 8 ∧ ln (k + 3) = 28 := by decide +kernel
  exact key k (kd_lt (by omega)) h
theorem ar_0_4 {k : Nat} (h : kd k = 0) : kd (k + 4) = 8 ∧ ln (k + 4) = 4 := by
  have key : ∀ k, k < 65 → kd k = 0 → kd (k + 4) = 8 ∧ ln (k + 4) = 4 := by decide +kernel
  exact key k (kd_lt (by omega)) h
theorem ar_0_5 {k : Nat} (h : kd k = 0) : kd (k + 5) = 8 ∧ ln (k + 5) = 4 := by
  have key : ∀ k, k < 65 → kd k = 0 → kd (k + 5) = 8 ∧ ln (k + 5) = 4 := by decide +kernel
  exact key k (kd_lt (by omega)) h
theorem ar_1_1 {k : Nat} (h : kd k = 1) : kd (k + 1) = 9 ∧ ln (k + 1) = 4096 := by
  have key : ∀ k, k < 65 → kd k = 1 → kd (k + 1) = 9 ∧ ln (k + 1) = 4096 := by decide +kernel
  exact key k (kd_lt (by omega)) h
theorem ar_1_2 {k : Nat} (h : kd k = 1) : kd (k + 2) = 8 ∧ ln (k + 2) = 29 := by
  have key : ∀ k, k < 65 → kd k = 1 → kd (k + 2) = 8 ∧ ln (k + 2) = 29 := by decide +kernel
  exact key k (kd_lt (by omega)) h
theorem ar_2_1 {k : Nat} (h : kd k = 2) : kd (k + 1) = 9 ∧ ln (k + 1) = 40 := by
  have key : ∀ k, k < 65 → kd k = 2 → kd (k + 1) = 9 ∧ ln (k + 1) = 40 := by decide +kernel
  exact key k (kd_lt (by omega)) h
theorem ar_3_1 {k : Nat} (h : kd k = 3) : kd (k + 1) = 8 ∧ ln (k + 1) = 32 := by
  have key : ∀ k, k < 65 → kd k = 3 → kd (k + 1) = 8 ∧ ln (k + 1) = 32 := by decide +kernel
  exact key k (kd_lt (by omega)) h
theorem ar_3_2 {k : Nat} (h : kd k = 3) : kd (k + 2) = 8 ∧ ln (k + 2) = 32 := by
  have key : ∀ k, k < 65 → kd k = 3 → kd (k + 2) = 8 ∧ ln (k + 2) = 32 := by decide +kernel
  exact key k (kd_lt (by omega)) h
theorem ar_3_3 {k : Nat} (h : kd k = 3) : kd (k + 3) = 8 ∧ ln (k + 3) = 32 := by
  have key : ∀ k, k < 65 → kd k = 3 → kd (k + 3) = 8 ∧ ln (k + 3) = 32 := by decide +kernel
  exact key k (kd_lt (by omega)) h
theorem ar_4_1 {k : Nat} (h : kd k = 4) : kd (k + 1) = 8 ∧ ln (k + 1) = 120 := by
  have key : ∀ k, k < 65 → kd k = 4 → kd (k + 1) = 8 ∧ ln (k + 1) = 120 := by decide +kernel
  exact key k (kd_lt (by omega)) h
theorem ar_5_1 {k : Nat} (h : kd k = 5) : kd (k + 1) = 4 ∧ ln (k + 1) = 0 := by
  have key : ∀ k, k < 65 → kd k = 5 → kd (k + 1) = 4 ∧ ln (k + 1) = 0 := by decide +kernel
  exact key k (kd_lt (by omega)) h
theorem ar_5_3 {k : Nat} (h : kd k = 5) : kd (k + 3) = 0 ∧ ln (k + 3) = 0 := by
  have key : ∀ k, k < 65 → kd k = 5 → kd (k + 3) = 0 ∧ ln (k + 3) = 0 := by decide +kernel
  exact key k (kd_lt (by omega)) h
theorem ar_5_9 {k : Nat} (h : kd k = 5) : kd (k + 9) = 3 ∧ ln (k + 9) = 0 := by
  have key : ∀ k, k < 65 → kd k = 5 → kd (k + 9) = 3 ∧ ln (k + 9) = 0 := by decide +kernel
  exact key k (kd_lt (by omega)) h
theorem ar_6_1 {k : Nat} (h : kd k = 6) : kd (k + 1) = 0 ∧ ln (k + 1) = 0 := by
  have key : ∀ k, k < 65 → kd k = 6 → kd (k + 1) = 0 ∧ ln (k + 1) = 0 := by decide +kernel
  exact key k (kd_lt (by omega)) h
theorem ar_6_7 {k : Nat} (h : kd k = 6) : kd (k + 7) = 0 ∧ ln (k + 7) = 0 := by
  have key : ∀ k, k < 65 → kd k = 6 → kd (k + 7) = 0 ∧ ln (k + 7) = 0 := by decide +kernel
  exact key k (kd_lt (by omega)) h
theorem ar_6_13 {k : Nat} (h : kd k = 6) : kd (k + 13) = 0 ∧ ln (k + 13) = 0 := by
  have key : ∀ k, k < 65 → kd k = 6 → kd (k + 13) = 0 ∧ ln (k + 13) = 0 := by decide +kernel
  exact key k (kd_lt (by omega)) h
theorem ar_6_19 {k : Nat} (h : kd k = 6) : kd (k + 19) = 3 ∧ ln (k + 19) = 0 := by
  have key : ∀ k, k < 65 → kd k = 6 → kd (k + 19) = 3 ∧ ln (k + 19) = 0 := by decide +kernel
  exact key k (kd_lt (by omega)) h
theorem ar_6_23 {k : Nat} (h : kd k = 6) : kd (k + 23) = 1 ∧ ln (k + 23) = 0 := by
  have key : ∀ k, k < 65 → kd k = 6 → kd (k + 23) = 1 ∧ ln (k + 23) = 0 := by decide +kernel
  exact key k (kd_lt (by omega)) h
theorem ar_6_26 {k : Nat} (h : kd k = 6) : kd (k + 26) = 5 ∧ ln (k + 26) = 0 := by
  have key : ∀ k, k < 65 → kd k = 6 → kd (k + 26) = 5 ∧ ln (k + 26) = 0 := by decide +kernel
  exact key k (kd_lt (by omega)) h
theorem ar_6_39 {k : Nat} (h : kd k = 6) : kd (k + 39) = 11 ∧ ln (k + 39) = 4 := by
  have key : ∀ k, k < 65 → kd k = 6 → kd (k + 39) = 11 ∧ ln (k + 39) = 4 := by decide +kernel
  exact key k (kd_lt (by omega)) h
theorem ar_6_40 {k : Nat} (h : kd k = 6) : kd (k + 40) = 8 ∧ ln (k + 40) = 7 := by
  have key : ∀ k, k < 65 → kd k = 6 → kd (k + 40) = 8 ∧ ln (k + 40) = 7 := by decide +kernel
  exact key k (kd_lt (by omega)) h
theorem ar_7_1 {k : Nat} (h : kd k = 7) : kd (k + 1) = 8 ∧ ln (k + 1) = 96 := by
  have key : ∀ k, k < 65 → kd k = 7 → kd (k + 1) = 8 ∧ ln (k + 1) = 96 := by decide +kernel
  exact key k (kd_lt (by omega)) h
theorem ar_7_2 {k : Nat} (h : kd k = 7) : kd (k + 2) = 8 ∧ ln (k + 2) = 7 := by
  have key : ∀ k, k < 65 → kd k = 7 → kd (k + 2) = 8 ∧ ln (k + 2) = 7 := by decide +kernel
  exact key k (kd_lt (by omega)) h
theorem ar_7_3 {k : Nat} (h : kd k = 7) : kd (k + 3) = 8 ∧ ln (k + 3) = 32 := by
  have key : ∀ k, k < 65 → kd k = 7 → kd (k + 3) = 8 ∧ ln (k + 3) = 32 := by decide +kernel
  exact key k (kd_lt (by omega)) h
theorem ar_7_4 {k : Nat} (h : kd k = 7) : kd (k + 4) = 8 ∧ ln (k + 4) = 32 := by
  have key : ∀ k, k < 65 → kd k = 7 → kd (k + 4) = 8 ∧ ln (k + 4) = 32 := by decide +kernel
  exact key k (kd_lt (by omega)) h
theorem ar_7_5 {k : Nat} (h : kd k = 7) : kd (k + 5) = 9 ∧ ln (k + 5) = 4096 := by
  have key : ∀ k, k < 65 → kd k = 7 → kd (k + 5) = 9 ∧ ln (k + 5) = 4096 := by decide +kernel
  exact key k (kd_lt (by omega)) h
theorem ar_7_6 {k : Nat} (h : kd k = 7) : kd (k + 6) = 8 ∧ ln (k + 6) = 4096 := by
  have key : ∀ k, k < 65 → kd k = 7 → kd (k + 6) = 8 ∧ ln (k + 6) = 4096 := by decide +kernel
  exact key k (kd_lt (by omega)) h
theorem ar_7_7 {k : Nat} (h : kd k = 7) : kd (k + 7) = 10 ∧ ln (k + 7) = 4096 := by
  have key : ∀ k, k < 65 → kd k = 7 → kd (k + 7) = 10 ∧ ln (k + 7) = 4096 := by decide +kernel
  exact key k (kd_lt (by omega)) h
theorem ar_7_8 {k : Nat} (h : kd k = 7) : kd (k + 8) = 8 ∧ ln (k + 8) = 4096 := by
  have key : ∀ k, k < 65 → kd k = 7 → kd (k + 8) = 8 ∧ ln (k + 8) = 4096 := by decide +kernel
  exact key k (kd_lt (by omega)) h
theorem ar_7_9 {k : Nat} (h : kd k = 7) : kd (k + 9) = 8 ∧ ln (k + 9) = 120 := by
  have key : ∀ k, k < 65 → kd k = 7 → kd (k + 9) = 8 ∧ ln (k + 9) = 120 := by decide +kernel
  exact key k (kd_lt (by omega)) h
theorem ar_7_10 {k : Nat} (h : kd k = 7) : kd (k + 10) = 8 ∧ ln (k + 10) = 4 := by
  have key : ∀ k, k < 65 → kd k = 7 → kd (k + 10) = 8 ∧ ln (k + 10) = 4 := by decide +kernel
  exact key k (kd_lt (by omega)) h
theorem ar_7_11 {k : Nat} (h : kd k = 7) : kd (k + 11) = 8 ∧ ln (k + 11) = 4 := by
  have key : ∀ k, k < 65 → kd k = 7 → kd (k + 11) = 8 ∧ ln (k + 11) = 4 := by decide +kernel
  exact key k (kd_lt (by omega)) h
theorem ar_7_12 {k : Nat} (h : kd k = 7) : kd (k + 12) = 9 ∧ ln (k + 12) = 160 := by
  have key : ∀ k, k < 65 → kd k = 7 → kd (k + 12) = 9 ∧ ln (k + 12) = 160 := by decide +kernel
  exact key k (kd_lt (by omega)) h
theorem ar_7_13 {k : Nat} (h : kd k = 7) : kd (k + 13) = 9 ∧ ln (k + 13) = 40 := by
  have key : ∀ k, k < 65 → kd k = 7 → kd (k + 13) = 9 ∧ ln (k + 13) = 40 := by decide +kernel
  exact key k (kd_lt (by omega)) h
theorem ar_7_14 {k : Nat} (h : kd k = 7) : kd (k + 14) = 8 ∧ ln (k + 14) = 96 := by
  have key : ∀ k, k < 65 → kd k = 7 → kd (k + 14) = 8 ∧ ln (k + 14) = 96 := by decide +kernel
  exact key k (kd_lt (by omega)) h
theorem ar_7_15 {k : Nat} (h : kd k = 7) : kd (k + 15) = 8 ∧ ln (k + 15) = 96 := by
  have key : ∀ k, k < 65 → kd k = 7 → kd (k + 15) = 8 ∧ ln (k + 15) = 96 := by decide +kernel
  exact key k (kd_lt (by omega)) h
