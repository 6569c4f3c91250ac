/-! STANDS FROM WHICH A ROW LEADS TO ANOTHER -/
def an4 (p : Nat → Bool) : Bool := p 0 || p 1 || p 2 || p 3
theorem an4_iff {p : Nat → Bool} : an4 p = true ↔ ∃ w, w < 4 ∧ p w = true := by
  unfold an4
  rw [Bool.or_eq_true, Bool.or_eq_true, Bool.or_eq_true]
  constructor
  · rintro (((z | z) | z) | z)
    · exact ⟨0, by omega, z⟩
    · exact ⟨1, by omega, z⟩
    · exact ⟨2, by omega, z⟩
    · exact ⟨3, by omega, z⟩
  · rintro ⟨w, h4, z⟩
    rcases w4 h4 with rfl | rfl | rfl | rfl
    · exact Or.inl (Or.inl (Or.inl z))
    · exact Or.inl (Or.inl (Or.inr z))
    · exact Or.inl (Or.inr z)
    · exact Or.inr z
theorem an4_congr {p q : Nat → Bool} (e : ∀ w, w < 4 → p w = q w) : an4 p = an4 q := by
  unfold an4; rw [e 0 (by omega), e 1 (by omega), e 2 (by omega), e 3 (by omega)]
def LdF (h : MH) (to : Nat) : Nat → Nat → Bool
  | 0, s => decide (s = to)
  | n + 1, s => decide (s = to) || (decide (to < s) && prB h s && an4 (fun w => gs h s w && sf h (s - 8 ^ w) && LdF h to n (s - 8 ^ w)))
def Ld (h : MH) (to s : Nat) : Bool := LdF h to s s
theorem LdF_st {h : MH} {to : Nat} : ∀ n m s, s ≤ n → s ≤ m → LdF h to n s = LdF h to m s := by
  intro n
  induction n with
  | zero =>
    intro m s hn hm
    have e : s = 0 := by omega
    subst e
    cases m with
    | zero => rfl
    | succ m => simp [LdF]
  | succ n ih =>
    intro m s hn hm
    cases m with
    | zero =>
      have e : s = 0 := by omega
      subst e
      simp [LdF]
    | succ m =>
      simp only [LdF]
      by_cases hp : prB h s = true
      · congr 1
        congr 1
        refine an4_congr (fun w h4 => ?_)
        cases g : gs h s w
        · rw [Bool.false_and, Bool.false_and, Bool.false_and]
        · have h8 := (lf_sub (prB_iff.mp hp).1 h4 (gs_lf g) (v := 0) (by omega)).1
          have hp8 := p8_pos w
          rw [ih m (s - 8 ^ w) (by omega) (by omega)]
      · have hp2 : prB h s = false := by cases q : prB h s; rfl; exact absurd q hp
        rw [hp2, Bool.and_false, Bool.false_and, Bool.false_and]
theorem Ld_eq {h : MH} {to : Nat} (s : Nat) : Ld h to s = (decide (s = to) || (decide (to < s) && prB h s && an4 (fun w => gs h s w && sf h (s - 8 ^ w) && Ld h to (s - 8 ^ w)))) := by
  unfold Ld
  cases s with
  | zero => simp [LdF]
  | succ s =>
    rw [show LdF h to (s + 1) (s + 1) = (decide (s + 1 = to) || (decide (to < s + 1) && prB h (s + 1) && an4 (fun w => gs h (s + 1) w && sf h (s + 1 - 8 ^ w) && LdF h to s (s + 1 - 8 ^ w)))) from rfl]
    by_cases hp : prB h (s + 1) = true
    · rw [an4_congr (q := fun w => gs h (s + 1) w && sf h (s + 1 - 8 ^ w) && LdF h to (s + 1 - 8 ^ w) (s + 1 - 8 ^ w)) (fun w h4 => ?_)]
      have hp8 := p8_pos w
      rw [LdF_st s (s + 1 - 8 ^ w) (s + 1 - 8 ^ w) (by omega) (by omega)]
    · have hp2 : prB h (s + 1) = false := by cases q : prB h (s + 1); rfl; exact absurd q hp
      rw [hp2, Bool.and_false, Bool.false_and, Bool.false_and]
theorem Ld_iff {h : MH} {to s : Nat} : Ld h to s = true ↔ s = to ∨ (to < s ∧ prB h s = true ∧ ∃ w, w < 4 ∧ gs h s w = true ∧ sf h (s - 8 ^ w) = true ∧ Ld h to (s - 8 ^ w) = true) := by
  rw [Ld_eq, Bool.or_eq_true, decide_eq_true_eq, Bool.and_eq_true, Bool.and_eq_true, decide_eq_true_eq, an4_iff]
  constructor
  · rintro (z | ⟨⟨a, b⟩, w, h4, c⟩)
    · exact Or.inl z
    · rw [Bool.and_eq_true, Bool.and_eq_true] at c
      exact Or.inr ⟨a, b, w, h4, c.1.1, c.1.2, c.2⟩
  · rintro (z | ⟨a, b, w, h4, c1, c2, c3⟩)
    · exact Or.inl z
    · exact Or.inr ⟨⟨a, b⟩, w, h4, by rw [c1, c2, c3]; rfl⟩
