/-! THE REFERENCE'S ROW: cell b (50 the row, 63 the image, 64 the copy ahead of a text) -/
def Ms (σ : St) (b : Nat) (h : MH) : Prop :=
  (∀ w, w < 4 → gI σ b (23 * w) = nI (hC h w) ∧ gI σ b (23 * w + 1) = nI (hW h w) ∧ ∀ i, i < hC h w → gI σ b (23 * w + 2 + 3 * i) = nI (hK h w i) ∧ gI σ b (23 * w + 2 + 3 * i + 1) = nI (hH h w i) ∧ gI σ b (23 * w + 2 + 3 * i + 2) = nI (hP h w i)) ∧
  gI σ b 92 = nI (hB h) ∧ gI σ b 93 = nI (hS h) ∧ gI σ b 94 = nI (hN h) ∧ gI σ b 95 = nI (hU h)
theorem Ms.fr {σ τ : St} {b : Nat} {h : MH} {S : Nat → Prop} (H : Ms σ b h) (F : Fr S σ τ) (hS : ¬ S b) : Ms τ b h := by
  have h0 := F.i hS
  unfold Ms
  simp only [h0]
  exact H
theorem m_many {σ : St} {h : MH} (M : Ms σ 50 h) {w : Nat} (h4 : w < 4) {Q : Int32 → Prop} (hQ : Q (nI (hC h w))) : P_X7_many (nI w) σ Q := by
  unfold P_X7_many
  rw [show ((23 : Int32) * nI w) + 0 = nI (23 * w) from by rw [show (23 : Int32) = nI 23 from rfl, pk_mul, Int32.add_zero], nI_clamp (by omega), (M.1 w h4).1]
  exact ⟨in_I (by omega) (by omega), hQ⟩
theorem m_at {σ : St} {w i j : Nat} {Q : Int32 → Prop} (hQ : Q (nI (23 * w + 2 + 3 * i + j))) : P_X7_at (nI w) (nI i) (nI j) σ Q := by
  unfold P_X7_at
  rw [show (((23 : Int32) * nI w) + 2) + (3 * nI i) + nI j = nI (23 * w + 2 + 3 * i + j) from by rw [show (23 : Int32) = nI 23 from rfl, show (2 : Int32) = nI 2 from rfl, show (3 : Int32) = nI 3 from rfl, pk_mul, pk_mul, nI_add, nI_add, nI_add]]
  exact hQ
theorem m_its {σ : St} {h : MH} (M : Ms σ 50 h) (hw : Wf h) {w i : Nat} (h4 : w < 4) (hi : i < hC h w) {j : Nat} (hj : j < 3) {Q : Int32 → Prop} (hQ : Q (nI (if j = 0 then hK h w i else if j = 1 then hH h w i else hP h w i))) : P_X7_its (nI w) (nI i) (nI j) σ Q := by
  have hc7 := (hw.1 w h4).1
  obtain ⟨f1, f2, f3⟩ := (M.1 w h4).2.2 i hi
  unfold P_X7_its
  refine m_at ⟨in_I (by omega) (by omega), ?_⟩
  rw [nI_clamp (by omega)]
  rcases (show j = 0 ∨ j = 1 ∨ j = 2 by omega) with rfl | rfl | rfl
  · rw [Nat.add_zero, f1]; exact hQ
  · rw [f2]; exact hQ
  · rw [f3]; exact hQ
theorem m_tall {σ : St} {h : MH} (M : Ms σ 50 h) (hw : Wf h) {w i : Nat} (h4 : w < 4) (hi : i < hC h w) {Q : Int32 → Prop} (hQ : Q (nI (tall h w i))) : P_X7_tall (nI w) (nI i) σ Q := by
  have b1 := ((hw.1 w h4).2.2 i hi)
  have b2 := hw.2.2.2.1
  unfold P_X7_tall
  refine m_its M hw h4 hi (j := 0) (by omega) (m_its M hw h4 hi (j := 1) (by omega) ?_)
  rw [if_pos rfl, if_neg (by omega), if_pos rfl, M.2.2.2.1]
  have e2 : nI (hK h w i) = 2 ↔ hK h w i = 2 := nI_eq (b := 2) (by omega) (by omega)
  have e5 : nI (hK h w i) = 5 ↔ hK h w i = 5 := nI_eq (b := 5) (by omega) (by omega)
  rw [e2, e5]
  unfold tall at hQ
  have le1 : (nI (hH h w i) - nI (hN h) ≤ 1) ↔ hH h w i - hN h ≤ 1 := by
    by_cases c : hN h ≤ hH h w i
    · rw [pk_sub c]; exact nI_leI (b := 1) (by omega) (by omega)
    · have h1 := pk_sneg (a := hH h w i) (b := hN h) (by omega) (by omega)
      exact ⟨fun _ => by omega, fun _ => Int32.le_trans (Int32.le_of_lt h1) (by decide)⟩
  rw [le1]
  refine ⟨fun z => ⟨fun k2 => ⟨fun k5 => ?_, fun k5 => ?_⟩, fun k2 => ?_⟩, fun z => ⟨fun k2 => ⟨fun k5 => ?_, fun k5 => ?_⟩, fun k2 => ?_⟩⟩
  · rw [if_neg k2, if_neg k5] at hQ; exact hQ
  · rw [if_neg k2, if_pos k5, Nat.max_eq_left z] at hQ; exact hQ
  · rw [if_pos k2, Nat.max_eq_left z] at hQ; exact hQ
  · rw [if_neg k2, if_neg k5] at hQ; exact hQ
  · rw [if_neg k2, if_pos k5, Nat.max_eq_right (by omega)] at hQ
    rw [pk_sub (by omega), show (2 : Int32) = nI 2 from rfl, pk_div (by omega) (by omega) (by omega)]; exact hQ
  · rw [if_pos k2, Nat.max_eq_right (by omega)] at hQ
    rw [pk_sub (by omega)]; exact hQ
theorem m_coin {σ : St} {h : MH} (M : Ms σ 50 h) (hw : Wf h) {w i : Nat} (h4 : w < 4) (hi : i < hC h w) {Q : Int32 → Prop} (hQ : Q (nI (coin h w i))) : P_X7_coin (nI w) (nI i) σ Q := by
  have b1 := ((hw.1 w h4).2.2 i hi)
  unfold P_X7_coin
  refine m_its M hw h4 hi (j := 2) (by omega) (m_its M hw h4 hi (j := 0) (by omega) ?_)
  rw [if_pos rfl, if_neg (by omega), if_neg (by omega)]
  have e1 : nI (hK h w i) = 1 ↔ hK h w i = 1 := nI_eq (b := 1) (by omega) (by omega)
  have e2 : nI (hK h w i) = 2 ↔ hK h w i = 2 := nI_eq (b := 2) (by omega) (by omega)
  have e3 : nI (hK h w i) = 3 ↔ hK h w i = 3 := nI_eq (b := 3) (by omega) (by omega)
  have e4 : nI (hK h w i) = 4 ↔ hK h w i = 4 := nI_eq (b := 4) (by omega) (by omega)
  have e5 : nI (hK h w i) = 5 ↔ hK h w i = 5 := nI_eq (b := 5) (by omega) (by omega)
  rw [e1, e2, e3, e4, e5]
  unfold coin at hQ
  refine ⟨fun z => ?_, fun z => ?_, fun z => ?_, fun z => ?_, fun z => ?_, fun z => ?_⟩
  · rw [if_pos z] at hQ; rw [lit_, nI_add]; exact hQ
  · rw [if_neg (by omega), if_neg (by omega), if_pos z] at hQ; rw [lit_, pk_div (by omega) (by omega) (by omega)]; exact hQ
  · rw [if_neg (by omega), if_neg (by omega), if_neg (by omega), if_neg (by omega)] at hQ; exact hQ
  · rw [if_neg (by omega), if_pos z] at hQ
    have e : (2 : Int32) * (nI (hP h w i) + 5) = nI (2 * (hP h w i + 5)) := by rw [show (5 : Int32) = nI 5 from rfl, nI_add, show (2 : Int32) = nI 2 from rfl, pk_mul]
    rw [e]; exact hQ
  · rw [if_neg (by omega), if_neg (by omega), if_neg (by omega), if_pos z] at hQ; exact hQ
  · rw [if_neg z.1, if_neg z.2.2.2.1, if_neg z.2.1, if_neg z.2.2.2.2] at hQ; exact hQ
theorem m_left {s w : Nat} (hs : s < 4096) (h4 : w < 4) {σ : St} {Q : Int32 → Prop} (h : Q (nI (lf s w))) : P_X7_left (nI s) (nI w) σ Q := by
  unfold P_X7_left; rw [lf_I hs h4]; exact h
theorem m_stones {s : Nat} (hs : s < 4096) {σ : St} {Q : Int32 → Prop} (h : Q (nI (stn s))) : P_X7_stones (nI s) σ Q := by
  unfold P_X7_stones
  refine m_left (w := 0) hs (by omega) (m_left (w := 1) hs (by omega) (m_left (w := 2) hs (by omega) (m_left (w := 3) hs (by omega) ?_)))
  rw [nI_add, nI_add, nI_add]; exact h
theorem or_I : ∀ w, w < 4 → ∀ c, c < 8 → ∀ x, x < 8 ^ w → (nI x ||| (nI c <<< ((3 * nI w) &&& 31))) = nI (x + c * 8 ^ w) := by
  intro w h4 c hc x hx
  rcases w4 h4 with rfl | rfl | rfl | rfl
  · have : x = 0 := by simpa using hx
    subst this
    revert c; decide +kernel
  · revert c x; decide +kernel
  · revert c x; decide +kernel
  · rw [show ((3 * nI 3) &&& 31 : Int32) = 9 by decide, pk_shlN 9 9 (by decide) (by omega)]
    have e : nI x ||| nI (c * 2 ^ 9) = nI (x ||| c * 2 ^ 9) := by
      apply Int32.toBitVec_inj.mp
      apply BitVec.eq_of_toNat_eq
      rw [Int32.toBitVec_or, BitVec.toNat_or, pk_tn (by omega), pk_tn (by omega), pk_tn (by
        have := Nat.or_lt_two_pow (x := x) (y := c * 2 ^ 9) (n := 12) (by omega) (by omega)
        omega)]
    rw [e]
    congr 1
    have e2 : x ||| c * 2 ^ 9 = c * 2 ^ 9 + x := by
      rw [Nat.or_comm, Nat.mul_comm]
      exact (Nat.two_pow_add_eq_or_of_lt (i := 9) (by omega) c).symm
    rw [e2]; omega
theorem m_standNow {σ : St} {h : MH} (M : Ms σ 50 h) (hw : Wf h) {Q : Int32 → Prop} (hQ : Q (nI (now h))) : P_X7_standNow σ Q := by
  unfold P_X7_standNow
  refine ⟨5, ?_⟩
  have stp : ∀ n x w, w < 4 → x < 8 ^ w → P_X7_standNow_l4 (fun k1 _ => Q k1) Q n (nI (x + hC h w * 8 ^ w)) (nI (w + 1)) σ → P_X7_standNow_l4 (fun k1 _ => Q k1) Q (n + 1) (nI x) (nI w) σ := by
    intro n x w h4 hx hh
    rw [P_X7_standNow_l4]
    refine ⟨fun z => absurd ((nI_leI (a := 4) (by omega) (by omega)).mp z) (by omega), fun _ => m_many M h4 ?_⟩
    rw [or_I w h4 _ (by have := (hw.1 w h4).1; omega) x hx, nI_1]; exact hh
  have h0 := (hw.1 0 (by omega)).1
  have h1 := (hw.1 1 (by omega)).1
  have h2 := (hw.1 2 (by omega)).1
  refine stp 4 0 0 (by omega) (by omega) (stp 3 _ 1 (by omega) (by omega) (stp 2 _ 2 (by omega) (by omega) (stp 1 _ 3 (by omega) (by omega) ?_)))
  rw [P_X7_standNow_l4]
  refine ⟨fun _ => ?_, fun z => absurd (nI_le (a := 4) (b := 4) (by omega) (by omega)) z⟩
  have e : 0 + hC h 0 * 8 ^ 0 + hC h 1 * 8 ^ 1 + hC h 2 * 8 ^ 2 + hC h 3 * 8 ^ 3 = now h := by unfold now; omega
  show Q (nI (0 + hC h 0 * 8 ^ 0 + hC h 1 * 8 ^ 1 + hC h 2 * 8 ^ 2 + hC h 3 * 8 ^ 3))
  rw [e]; exact hQ
theorem m_mayGo {σ : St} {h : MH} (M : Ms σ 50 h) (hw : Wf h) {w i s : Nat} (h4 : w < 4) (hi : i < hC h w) (hs : s < 4096) {Q : Bool → Prop} (hQ : Q (mgK (hK h w i) w s)) : P_X7_mayGo (nI w) (nI i) (nI s) σ Q := by
  have hk := ((hw.1 w h4).2.2 i hi).1
  have l0 := lf_lt s w
  unfold P_X7_mayGo
  refine m_its M hw h4 hi (j := 0) (by omega) (m_left hs h4 ?_)
  rw [if_pos rfl]
  generalize hK h w i = k at hQ hk ⊢
  have e1 : nI k = 1 ↔ k = 1 := nI_eq (b := 1) (by omega) (by omega)
  have e3 : nI k = 3 ↔ k = 3 := nI_eq (b := 3) (by omega) (by omega)
  have e4 : nI k = 4 ↔ k = 4 := nI_eq (b := 4) (by omega) (by omega)
  have e0 : nI w ≤ 0 ↔ w ≤ 0 := nI_leI (b := 0) (by omega) (by omega)
  have e5 : (3 : Int32) ≤ nI w ↔ 3 ≤ w := nI_leI (a := 3) (by omega) (by omega)
  simp only [e1, e3, e4, e0, e5]
  have nb : ∀ {X : Int32 → Prop}, w < 3 → X (nI (lf s (w + 1))) → P_X7_left (nI s) (nI w + 1) σ X := fun h3 x => by rw [nI_1]; exact m_left hs (by omega) x
  have pb : ∀ {X : Int32 → Prop}, 0 < w → X (nI (lf s (w - 1))) → P_X7_left (nI s) (nI w - 1) σ X := fun h3 x => by rw [show nI w - 1 = nI (w - 1) from pk_sub (b := 1) h3]; exact m_left hs (by omega) x
  have le1 : (nI (lf s (w + 1)) ≤ nI (lf s w)) ↔ lf s (w + 1) ≤ lf s w := nI_leI (by have := lf_lt s (w + 1); omega) (by omega)
  have le2 : (nI (lf s (w - 1)) ≤ nI (lf s w)) ↔ lf s (w - 1) ≤ lf s w := nI_leI (by have := lf_lt s (w - 1); omega) (by omega)
  unfold mgK at hQ
  -- the last three tests, by what is known of the neighbours
  have fin : ∀ (bf bh : Bool), (bf = true ↔ (w = 0 ∨ lf s (w - 1) ≤ lf s w)) → (bh = true ↔ (3 ≤ w ∨ lf s (w + 1) ≤ lf s w)) → ∀ (A B : Bool), A = (bf && bh) → B = bh → ((k = 1 → Q A) ∧ (¬ k = 1 → (¬ k = 4 → (¬ k = 3 → Q true) ∧ (k = 3 → Q B)) ∧ (k = 4 → Q A))) := by
    intro bf bh hbf hbh A B hA hB
    rw [hA, hB]
    clear hA hB
    have q1 : (k = 1 ∨ k = 4) → Q (bf && bh) := fun y => by
      rw [if_pos y] at hQ
      have : decide ((w = 0 ∨ lf s (w - 1) ≤ lf s w) ∧ (3 ≤ w ∨ lf s (w + 1) ≤ lf s w)) = (bf && bh) := by
        rw [Bool.eq_iff_iff, Bool.and_eq_true, decide_eq_true_eq, hbf, hbh]
      rw [this] at hQ; exact hQ
    have q3 : k = 3 → Q bh := fun y => by
      rw [if_neg (by omega), if_pos y] at hQ
      have : decide (3 ≤ w ∨ lf s (w + 1) ≤ lf s w) = bh := by rw [Bool.eq_iff_iff, decide_eq_true_eq, hbh]
      rw [this] at hQ; exact hQ
    refine ⟨fun y => q1 (Or.inl y), fun y1 => ⟨fun y4 => ⟨fun y3 => ?_, fun y3 => q3 y3⟩, fun y4 => q1 (Or.inr y4)⟩⟩
    rw [if_neg (by omega), if_neg y3] at hQ; exact hQ
  refine ⟨fun w0 => ⟨fun w3 => by omega, fun w3 => nb (by omega) ⟨fun q => ?_, fun q => ?_⟩⟩, fun w0 => pb (by omega) ⟨fun p => ⟨fun w3 => ?_, fun w3 => nb (by omega) ⟨fun q => ?_, fun q => ?_⟩⟩, fun p => ⟨fun w3 => ?_, fun w3 => nb (by omega) ⟨fun q => ?_, fun q => ?_⟩⟩⟩⟩
  · exact fin true true ⟨fun _ => Or.inl (by omega), fun _ => rfl⟩ ⟨fun _ => Or.inr (le1.mp q), fun _ => rfl⟩ _ _ rfl rfl
  · exact fin true false ⟨fun _ => Or.inl (by omega), fun _ => rfl⟩ ⟨fun z => (by cases z), fun z => by have := mt le1.mpr q; omega⟩ _ _ rfl rfl
  · exact fin true true ⟨fun _ => Or.inr (le2.mp p), fun _ => rfl⟩ ⟨fun _ => Or.inl w3, fun _ => rfl⟩ _ _ rfl rfl
  · exact fin true true ⟨fun _ => Or.inr (le2.mp p), fun _ => rfl⟩ ⟨fun _ => Or.inr (le1.mp q), fun _ => rfl⟩ _ _ rfl rfl
  · exact fin true false ⟨fun _ => Or.inr (le2.mp p), fun _ => rfl⟩ ⟨fun z => (by cases z), fun z => by have := mt le1.mpr q; omega⟩ _ _ rfl rfl
  · exact fin false true ⟨fun z => (by cases z), fun z => by have := mt le2.mpr p; omega⟩ ⟨fun _ => Or.inl w3, fun _ => rfl⟩ _ _ rfl rfl
  · exact fin false true ⟨fun z => (by cases z), fun z => by have := mt le2.mpr p; omega⟩ ⟨fun _ => Or.inr (le1.mp q), fun _ => rfl⟩ _ _ rfl rfl
  · exact fin false false ⟨fun z => (by cases z), fun z => by have := mt le2.mpr p; omega⟩ ⟨fun z => (by cases z), fun z => by have := mt le1.mpr q; omega⟩ _ _ rfl rfl
