/-! PURE SIDE. Numbers: ints are written as nI n. -/
theorem lit_ (n : Nat) : (OfNat.ofNat n : Int32) = nI (OfNat.ofNat n) := rfl
theorem litL_ (n : Nat) : (OfNat.ofNat n : Int64) = lN (OfNat.ofNat n) := rfl
def lf (s w : Nat) : Nat := s / 8 ^ w % 8
theorem lf0 (s : Nat) : lf s 0 = s % 8 := by simp [lf]
theorem lf1 (s : Nat) : lf s 1 = s / 8 % 8 := by simp [lf]
theorem lf2 (s : Nat) : lf s 2 = s / 64 % 8 := by simp [lf]
theorem lf3 (s : Nat) : lf s 3 = s / 512 % 8 := by simp [lf]
theorem lf_lt (s w : Nat) : lf s w < 8 := Nat.mod_lt _ (by decide)
theorem w4 {w : Nat} (h : w < 4) : w = 0 ∨ w = 1 ∨ w = 2 ∨ w = 3 := by omega
theorem lf_I {s w : Nat} (hs : s < 4096) (hw : w < 4) : ((nI s) >>> ((3 * nI w) &&& 31)) &&& 7 = nI (lf s w) := by
  rcases w4 hw with rfl | rfl | rfl | rfl
  · rw [show ((3 * nI 0) &&& 31 : Int32) = 0 by decide, pk_shrN (by omega) 0 0 (by decide), pk_andN (m := 7) (by omega) 3 (by decide), lf0]; simp
  · rw [show ((3 * nI 1) &&& 31 : Int32) = 3 by decide, pk_shrN (by omega) 3 3 (by decide), pk_andN (m := 7) (by omega) 3 (by decide), lf1]
  · rw [show ((3 * nI 2) &&& 31 : Int32) = 6 by decide, pk_shrN (by omega) 6 6 (by decide), pk_andN (m := 7) (by omega) 3 (by decide), lf2]
  · rw [show ((3 * nI 3) &&& 31 : Int32) = 9 by decide, pk_shrN (by omega) 9 9 (by decide), pk_andN (m := 7) (by omega) 3 (by decide), lf3]
theorem un_I {w : Nat} (hw : w < 4) : ((1 : Int32) <<< ((3 * nI w) &&& 31)) = nI (8 ^ w) := by
  rcases w4 hw with rfl | rfl | rfl | rfl <;> decide
theorem p8_pos (w : Nat) : 0 < 8 ^ w := Nat.pos_of_ne_zero (by simp)
theorem lf_sub {s w : Nat} (hs : s < 4096) (hw : w < 4) (h : 0 < lf s w) {v : Nat} (hv : v < 4) : 8 ^ w ≤ s ∧ lf (s - 8 ^ w) v = if v = w then lf s v - 1 else lf s v := by
  rcases w4 hw with rfl | rfl | rfl | rfl <;> rcases w4 hv with rfl | rfl | rfl | rfl <;> simp only [lf0, lf1, lf2, lf3] at * <;> simp <;> omega
theorem lf_add {s w : Nat} (hs : s < 4096) (hw : w < 4) (h : lf s w < 7) {v : Nat} (hv : v < 4) : lf (s + 8 ^ w) v = if v = w then lf s v + 1 else lf s v := by
  rcases w4 hw with rfl | rfl | rfl | rfl <;> rcases w4 hv with rfl | rfl | rfl | rfl <;> simp only [lf0, lf1, lf2, lf3] at * <;> simp <;> omega
theorem lf_full {s w : Nat} (hw : w < 4) (h : lf s w = 7) : lf (s + 8 ^ w) w = 0 := by
  rcases w4 hw with rfl | rfl | rfl | rfl <;> simp only [lf0, lf1, lf2, lf3] at * <;> simp <;> omega
theorem s_lf {s : Nat} (hs : s < 4096) : s = lf s 0 + 8 * lf s 1 + 64 * lf s 2 + 512 * lf s 3 := by
  simp only [lf0, lf1, lf2, lf3]; omega
theorem lf_ext {s t : Nat} (hs : s < 4096) (ht : t < 4096) (h : ∀ w, w < 4 → lf s w = lf t w) : s = t := by
  rw [s_lf hs, s_lf ht, h 0 (by omega), h 1 (by omega), h 2 (by omega), h 3 (by omega)]
def stn (s : Nat) : Nat := lf s 0 + lf s 1 + lf s 2 + lf s 3
theorem stn_le (s : Nat) : stn s ≤ 28 := by
  have h0 := lf_lt s 0
  have h1 := lf_lt s 1
  have h2 := lf_lt s 2
  have h3 := lf_lt s 3
  unfold stn; omega
theorem stn_sub {s w : Nat} (hs : s < 4096) (hw : w < 4) (h : 0 < lf s w) : stn (s - 8 ^ w) + 1 = stn s := by
  have h0 := (lf_sub hs hw h (v := 0) (by omega)).2
  have h1 := (lf_sub hs hw h (v := 1) (by omega)).2
  have h2 := (lf_sub hs hw h (v := 2) (by omega)).2
  have h3 := (lf_sub hs hw h (v := 3) (by omega)).2
  unfold stn
  rw [h0, h1, h2, h3]
  rcases w4 hw with rfl | rfl | rfl | rfl <;> simp <;> omega
/-- the stores -/
theorem gI_sI (σ : St) (a j : Nat) (v : Int32) (b k : Nat) : gI (sI σ a j v) b k = if b = a ∧ k = j then v else gI σ b k := by
  unfold gI sI
  by_cases h : b = a
  · subst h
    by_cases h2 : k = j
    · subst h2; simp [upd]
    · simp [upd, h2]
  · simp [h]
theorem gL_sI (σ : St) (a j : Nat) (v : Int32) (b k : Nat) : gL (sI σ a j v) b k = gL σ b k := rfl
theorem gI_sL (σ : St) (a j : Nat) (v : Int64) (b k : Nat) : gI (sL σ a j v) b k = gI σ b k := rfl
theorem gL_sL (σ : St) (a j : Nat) (v : Int64) (b k : Nat) : gL (sL σ a j v) b k = if b = a ∧ k = j then v else gL σ b k := by
  unfold gL sL
  by_cases h : b = a
  · subst h
    by_cases h2 : k = j
    · subst h2; simp [vp_updL]
    · simp [vp_updL, h2]
  · simp [h]
theorem gI_cI (σ : St) (a i d j n b k : Nat) : gI (cI σ a i d j n) b k = if b = d ∧ j ≤ k ∧ k < j + n then gI σ a (i + (k - j)) else gI σ b k := by
  unfold gI cI
  by_cases h : b = d
  · subst h
    simp [va_cpy]
  · simp [h]
theorem gL_cI (σ : St) (a i d j n b k : Nat) : gL (cI σ a i d j n) b k = gL σ b k := rfl
theorem gI_cL (σ : St) (a i d j n b k : Nat) : gI (cL σ a i d j n) b k = gI σ b k := rfl
theorem gL_cL (σ : St) (a i d j n b k : Nat) : gL (cL σ a i d j n) b k = if b = d ∧ j ≤ k ∧ k < j + n then gL σ a (i + (k - j)) else gL σ b k := by
  unfold gL cL
  by_cases h : b = d
  · subst h
    simp [va_cpy]
  · simp [h]
theorem gI_eq (σ : St) (a j : Nat) (v : Int32) : gI (sI σ a j v) a j = v := by rw [gI_sI, if_pos ⟨rfl, rfl⟩]
theorem gI_ne {σ : St} {a j b k : Nat} {v : Int32} (h : b ≠ a ∨ k ≠ j) : gI (sI σ a j v) b k = gI σ b k := by rw [gI_sI, if_neg (by omega)]
theorem gL_eq (σ : St) (a j : Nat) (v : Int64) : gL (sL σ a j v) a j = v := by rw [gL_sL, if_pos ⟨rfl, rfl⟩]
theorem gL_ne {σ : St} {a j b k : Nat} {v : Int64} (h : b ≠ a ∨ k ≠ j) : gL (sL σ a j v) b k = gL σ b k := by rw [gL_sL, if_neg (by omega)]
theorem gI_cn {σ : St} {a i d j n b k : Nat} (h : b ≠ d ∨ k < j ∨ j + n ≤ k) : gI (cI σ a i d j n) b k = gI σ b k := by rw [gI_cI, if_neg (by omega)]
theorem gI_ci {σ : St} {a i d j n k : Nat} (h1 : j ≤ k) (h2 : k < j + n) : gI (cI σ a i d j n) d k = gI σ a (i + (k - j)) := by rw [gI_cI, if_pos ⟨rfl, h1, h2⟩]
theorem gL_cn {σ : St} {a i d j n b k : Nat} (h : b ≠ d ∨ k < j ∨ j + n ≤ k) : gL (cL σ a i d j n) b k = gL σ b k := by rw [gL_cL, if_neg (by omega)]
theorem gL_ci {σ : St} {a i d j n k : Nat} (h1 : j ≤ k) (h2 : k < j + n) : gL (cL σ a i d j n) d k = gL σ a (i + (k - j)) := by rw [gL_cL, if_pos ⟨rfl, h1, h2⟩]
/-- what isn't in S stays -/
def Fr (S : Nat → Prop) (σ τ : St) : Prop := ∀ k, ¬ S k → (∀ j, gI τ k j = gI σ k j) ∧ ∀ j, gL τ k j = gL σ k j
theorem Fr.rf {S : Nat → Prop} {σ : St} : Fr S σ σ := fun _ _ => ⟨fun _ => rfl, fun _ => rfl⟩
theorem Fr.tr {S : Nat → Prop} {σ τ ρ : St} (h : Fr S σ τ) (g : Fr S τ ρ) : Fr S σ ρ := fun k hk => ⟨fun j => ((g k hk).1 j).trans ((h k hk).1 j), fun j => ((g k hk).2 j).trans ((h k hk).2 j)⟩
theorem Fr.mono {S T : Nat → Prop} {σ τ : St} (h : Fr S σ τ) (hs : ∀ k, S k → T k) : Fr T σ τ := fun k hk => h k (fun z => hk (hs k z))
theorem Fr.sI {S : Nat → Prop} {σ τ : St} (h : Fr S σ τ) {a : Nat} (ha : S a) (j : Nat) (v : Int32) : Fr S σ (sI τ a j v) := fun k hk => by
  have hne : k ≠ a := fun e => hk (e ▸ ha)
  exact ⟨fun i => by simp only [gI_sI, hne, false_and, if_false]; exact (h k hk).1 i, fun i => (h k hk).2 i⟩
theorem Fr.sL {S : Nat → Prop} {σ τ : St} (h : Fr S σ τ) {a : Nat} (ha : S a) (j : Nat) (v : Int64) : Fr S σ (sL τ a j v) := fun k hk => by
  have hne : k ≠ a := fun e => hk (e ▸ ha)
  exact ⟨fun i => (h k hk).1 i, fun i => by simp only [gL_sL, hne, false_and, if_false]; exact (h k hk).2 i⟩
theorem Fr.cI {S : Nat → Prop} {σ τ : St} (h : Fr S σ τ) {d : Nat} (hd : S d) (a i j n : Nat) : Fr S σ (cI τ a i d j n) := fun k hk => by
  have hne : k ≠ d := fun e => hk (e ▸ hd)
  exact ⟨fun q => by simp only [gI_cI, hne, false_and, if_false]; exact (h k hk).1 q, fun q => (h k hk).2 q⟩
theorem Fr.cL {S : Nat → Prop} {σ τ : St} (h : Fr S σ τ) {d : Nat} (hd : S d) (a i j n : Nat) : Fr S σ (cL τ a i d j n) := fun k hk => by
  have hne : k ≠ d := fun e => hk (e ▸ hd)
  exact ⟨fun q => (h k hk).1 q, fun q => by simp only [gL_cL, hne, false_and, if_false]; exact (h k hk).2 q⟩
theorem Fr.i {S : Nat → Prop} {σ τ : St} (h : Fr S σ τ) {k : Nat} (hk : ¬ S k) (j : Nat) : gI τ k j = gI σ k j := (h k hk).1 j
theorem Fr.l {S : Nat → Prop} {σ τ : St} (h : Fr S σ τ) {k : Nat} (hk : ¬ S k) (j : Nat) : gL τ k j = gL σ k j := (h k hk).2 j
/-- small numbers in arithmetic -/
theorem in_I {n N : Nat} (h : n < N) (hN : N < 2 ^ 31) : vp_in (nI n) N := vp_in_nI h hN
theorem s_within {p a b : Int32} {σ : St} {Q : Bool → Prop} (h : Q (decide (a ≤ p ∧ p ≤ b))) : P_X6_isWithin p a b σ Q := by
  unfold P_X6_isWithin
  refine ⟨fun z => ?_, fun z => ⟨fun y => ?_, fun y => ?_⟩⟩
  · rw [show decide (a ≤ p ∧ p ≤ b) = false from decide_eq_false (fun c => absurd z (Int32.not_lt.mpr c.1))] at h; exact h
  · rw [show decide (a ≤ p ∧ p ≤ b) = false from decide_eq_false (fun c => absurd y (Int32.not_lt.mpr c.2))] at h; exact h
  · rw [show decide (a ≤ p ∧ p ≤ b) = true from decide_eq_true ⟨Int32.not_lt.mp z, Int32.not_lt.mp y⟩] at h; exact h
theorem m_in {p a b : Int32} {σ : St} {Q : Bool → Prop} (h : Q (decide (a ≤ p ∧ p ≤ b))) : P_X7_in p a b σ Q := by
  unfold P_X7_in
  refine ⟨fun z => ?_, fun z => ⟨fun y => ?_, fun y => ?_⟩⟩
  · rw [show decide (a ≤ p ∧ p ≤ b) = false from decide_eq_false (fun c => absurd z (Int32.not_lt.mpr c.1))] at h; exact h
  · rw [show decide (a ≤ p ∧ p ≤ b) = false from decide_eq_false (fun c => absurd y (Int32.not_lt.mpr c.2))] at h; exact h
  · rw [show decide (a ≤ p ∧ p ≤ b) = true from decide_eq_true ⟨Int32.not_lt.mp z, Int32.not_lt.mp y⟩] at h; exact h
/-- a number in a range is a small one -/
theorem rng {p : Int32} {a b : Nat} (ha : a < 2 ^ 31) (hb : b < 2 ^ 31) (h : nI a ≤ p ∧ p ≤ nI b) : ∃ j, a ≤ j ∧ j ≤ b ∧ p = nI j := by
  have h0 : ¬ p < 0 := Int32.not_lt.mpr (Int32.le_trans (nI_pos' ha) h.1)
  obtain ⟨j, hj, rfl⟩ := nI_of h0
  exact ⟨j, (nI_leI ha hj).mp h.1, (nI_leI hj hb).mp h.2, rfl⟩
theorem dec_nI {j a b : Nat} (hj : j < 2 ^ 31) (ha : a < 2 ^ 31) (hb : b < 2 ^ 31) : decide (nI a ≤ nI j ∧ nI j ≤ nI b) = decide (a ≤ j ∧ j ≤ b) := by
  simp only [nI_leI ha hj, nI_leI hj hb]
theorem lgc_pos {n : Nat} (h : n < 2 ^ 63) : lg_cmp (lN n) 0 ≤ 0 ↔ n = 0 := by
  rw [lg_cmp_le, litL_, pk_lLE h (by omega)]; omega
theorem lgc_eq {n : Nat} (h : n < 2 ^ 63) : lg_cmp (lN n) 0 = 0 ↔ n = 0 := by
  rw [lg_cmp_eq, litL_, pk_lEQ h (by omega)]
