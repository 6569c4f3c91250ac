/-! SHEETS -/
abbrev inSh : Nat → Prop := fun k => (41 ≤ k ∧ k ≤ 48) ∨ (59 ≤ k ∧ k ≤ 62)
theorem sh_inv {σ τ : St} {h : MH} (R : Re σ h) (D : Fdd σ) (F : Fr inSh σ τ) (S : Sh τ) : Inv τ := by
  obtain ⟨hw, hn, H, M, K⟩ := R
  obtain ⟨b, b1, e0, e1, kk⟩ := K.1
  refine ⟨h, ⟨hw, hn, H.fr F (fun j hj z => by omega), M.fr F (by decide), ⟨b, b1, by rw [F.i (by decide)]; exact e0, by rw [F.i (by decide)]; exact e1, fun z => ?_⟩, K.2.1.ex (F.i (by decide) _) (F.i (by decide) _) (F.i (by decide)) (F.i (by decide)), S⟩, D.fr F (by decide) (by decide)⟩
  obtain ⟨k, k1, k2, k3, k4⟩ := kk z
  exact ⟨k, k1, k2, k3.fr F (fun j hj z => by omega), k4.fr F (by decide)⟩
theorem she_y {σ : St} {s : Nat} (h4 : s ≤ 3) {Q : Bool → Prop} (q : Q true) : P_X6_isSheet (nI s) σ Q := wi_y (a := 0) (b := 3) (Nat.zero_le _) h4 (by omega) q
theorem she_n {σ : St} {p : Int32} (no : ∀ j, 0 ≤ j → j ≤ 3 → p ≠ nI j) {Q : Bool → Prop} (q : Q false) : P_X6_isSheet p σ Q := wi_n (a := 0) (b := 3) (by omega) (by omega) no q
theorem shm_y {σ : St} {s : Nat} (h4 : s ≤ 3) {Q : Bool → Prop} (q : Q true) : P_X7_isSheet (nI s) σ Q := in_y (a := 0) (b := 3) (Nat.zero_le _) h4 (by omega) q
theorem shm_n {σ : St} {p : Int32} (no : ∀ j, 0 ≤ j → j ≤ 3 → p ≠ nI j) {Q : Bool → Prop} (q : Q false) : P_X7_isSheet p σ Q := in_n (a := 0) (b := 3) (by omega) (by omega) no q
theorem s_shF {σ : St} {s b : Nat} (h3 : s ≤ 3) (hb : b ≤ 64) (e : gI σ (41 + 2 * s) 1 = nI b) {Q : Int32 → Prop} (y : b ≠ 0 → Q 0) (no : b = 0 → Q (-1000000006)) : P_X6_sheetFinding (nI s) σ Q := by
  unfold P_X6_sheetFinding
  refine she_y h3 (bT' ⟨in_I (by omega) (by omega), ?_⟩)
  rw [nI_clamp (by omega), e]
  have e0 : nI b = 0 ↔ b = 0 := nI_eq (b := 0) (by omega) (by omega)
  rw [e0]
  exact ⟨y, no⟩
theorem s_shFn {σ : St} {p : Int32} (nz : ∀ j, 0 ≤ j → j ≤ 3 → p ≠ nI j) {Q : Int32 → Prop} (q : Q (-1000000001)) : P_X6_sheetFinding p σ Q := by
  unfold P_X6_sheetFinding
  exact she_n nz (bF' q)
def nrw (b : Nat) (v : Int64) : Int64 := (v <<< ((64 - nI b : Int32).toInt64 &&& 63)) >>> ((64 - nI b : Int32).toInt64 &&& 63)
theorem m_narrow {σ : St} {b : Nat} (hb : b = 8 ∨ b = 16 ∨ b = 64) {v : Int64} {Q : Int64 → Prop} (q : Q (nrw b v)) : P_X7_narrow (nI b) v σ Q := by
  unfold P_X7_narrow
  rcases hb with rfl | rfl | rfl
  · exact ⟨fun z => absurd rfl z, fun _ => q⟩
  · exact ⟨fun _ => ⟨fun z => absurd rfl z, fun _ => q⟩, fun z => absurd z (by decide)⟩
  · refine ⟨fun _ => ⟨fun _ => ?_, fun z => absurd z (by decide)⟩, fun z => absurd z (by decide)⟩
    unfold nrw at q
    rw [show ((64 - nI 64 : Int32).toInt64 &&& 63) = 0 from by decide, Int64.shiftLeft_zero, Int64.shiftRight_zero] at q
    exact q
theorem e40 {s i : Nat} : ((40 : Int32) * nI s) + nI i = nI (40 * s + i) := by rw [show (40 : Int32) = nI 40 from rfl, pk_mul, nI_add]
theorem cm1' {c : Nat} {p : Int32} (hc : c ≤ 40) (z : (0 : Int32) ≤ p ∧ p ≤ nI c - 1) : ∃ i, i < c ∧ p = nI i := by
  cases c with
  | zero => exact absurd (Int32.le_trans z.1 z.2) (by decide)
  | succ c =>
    rw [nI_pred] at z
    obtain ⟨j, h1, h2, h3⟩ := rng (a := 0) (b := c) (by omega) (by omega) z
    exact ⟨j, by omega, h3⟩
/-- one number of a sheet on both sides -/
theorem Sh_put {σ : St} {B Z : Nat → Nat} {s i : Nat} (h4 : s < 4) (hi : i < 40) (v : Int64)
    (S : ∀ s, s < 4 → (B s = 0 ∨ B s = 8 ∨ B s = 16 ∨ B s = 64) ∧ Z s ≤ 40 ∧ gI σ (41 + 2 * s) 1 = nI (B s) ∧ gI σ 59 s = nI (B s) ∧ gI σ (41 + 2 * s) 2 = nI (Z s) ∧ gI σ 60 s = nI (Z s) ∧ ∀ j, j < 40 → gL σ (41 + 2 * s + 1) j = gL σ 61 (40 * s + j)) :
    ∀ t, t < 4 → (B t = 0 ∨ B t = 8 ∨ B t = 16 ∨ B t = 64) ∧ Z t ≤ 40 ∧ gI (sL (sL σ (41 + 2 * s + 1) i v) 61 (40 * s + i) v) (41 + 2 * t) 1 = nI (B t) ∧ gI (sL (sL σ (41 + 2 * s + 1) i v) 61 (40 * s + i) v) 59 t = nI (B t) ∧ gI (sL (sL σ (41 + 2 * s + 1) i v) 61 (40 * s + i) v) (41 + 2 * t) 2 = nI (Z t) ∧ gI (sL (sL σ (41 + 2 * s + 1) i v) 61 (40 * s + i) v) 60 t = nI (Z t) ∧ ∀ j, j < 40 → gL (sL (sL σ (41 + 2 * s + 1) i v) 61 (40 * s + i) v) (41 + 2 * t + 1) j = gL (sL (sL σ (41 + 2 * s + 1) i v) 61 (40 * s + i) v) 61 (40 * t + j) := by
  intro t ht
  obtain ⟨a1, a2, a3, a4, a5, a6, a7⟩ := S t ht
  refine ⟨a1, a2, a3, a4, a5, a6, fun j hj => ?_⟩
  by_cases e : t = s ∧ j = i
  · obtain ⟨e1, e2⟩ := e
    subst e1; subst e2
    rw [gL_ne (by omega), gL_eq, gL_eq]
  · rw [gL_ne (by omega), gL_ne (by omega), gL_ne (by omega), gL_ne (by omega)]
    exact a7 j hj
theorem pp_write {σ : St} (I : Inv σ) (p0 p1 : Int32) (p2 : Int64) : SameL (P_X6_write p0 p1 p2 σ) (P_X7_write p0 p1 p2) := by
  obtain ⟨h, R, D⟩ := I
  obtain ⟨hw, hn, H, M, K⟩ := id R
  obtain ⟨B, Z, S⟩ := K.2.2
  unfold SameL P_X6_write
  rcases rn p0 0 3 with ⟨s, _, s3, rfl⟩ | ns
  · have h4 : s < 4 := by omega
    obtain ⟨a1, a2, a3, a4, a5, a6, a7⟩ := S s h4
    have hin : vp_in (nI s) 4 := in_I h4 (by omega)
    have e0 : nI (B s) = 0 ↔ B s = 0 := nI_eq (b := 0) (by omega) (by omega)
    refine s_shF s3 (by omega) a3 (fun nb => ⟨fun _ => ⟨hin, ?_⟩, fun z => absurd rfl z⟩) (fun eb => ⟨fun z => absurd z (by decide), fun _ => ?_⟩)
    · rw [nI_clamp (by omega), a5]
      refine s_within ?_
      by_cases z : (0 : Int32) ≤ p1 ∧ p1 ≤ nI (Z s) - 1
      · rw [decide_eq_true z]
        obtain ⟨i, hi, rfl⟩ := cm1' a2 z
        refine bT' ⟨in_I (by omega) (by omega), ?_⟩
        unfold P_X2_put
        rw [nI_clamp (by omega), a3]
        refine ⟨in_I (by omega) (by omega), ?_⟩
        unfold P_X7_write
        dsimp only
        rw [e40, nI_clamp (n := s) (by omega), nI_clamp (n := 40 * s + i) (by omega), gI_sL, gI_sL, a4, a6, e0]
        have hin2 : vp_in (nI (40 * s + i)) 160 := in_I (by omega) (by omega)
        refine shm_y s3 (bT' ⟨hin, fun _ => ⟨hin, m_in ?_⟩, fun q => absurd q nb⟩)
        rw [decide_eq_true z]
        refine bT' ⟨hin2, hin, m_narrow (by omega) ⟨hin2, ?_, ?_⟩⟩
        · rw [gL_ne (by omega)]; exact a7 i (by omega)
        · exact sh_inv R D ((Fr.rf.sL (by omega) _ _).sL (by decide) _ _) ⟨B, Z, Sh_put h4 (by omega) _ S⟩
      · rw [decide_eq_false z]
        refine bF' (ff (i := 0) (by omega) (by decide) R D (fun τ F Rτ E => ?_))
        unfold P_X7_write
        dsimp only
        rw [nI_clamp (n := s) (by omega), F.i (k := 59) (by decide), F.i (k := 60) (by decide), a4, a6, e0]
        refine shm_y s3 (bT' ⟨hin, fun _ => ⟨hin, m_in ?_⟩, fun q => absurd q nb⟩)
        rw [decide_eq_false z]
        exact bF' (fm (i := 0) (by omega) (by decide) Rτ E (fun _ J => ⟨rfl, J⟩))
    · refine ff (i := 5) (by omega) (by decide) R D (fun τ F Rτ E => ?_)
      unfold P_X7_write
      dsimp only
      rw [nI_clamp (n := s) (by omega), F.i (k := 59) (by decide), a4, e0]
      exact shm_y s3 (bT' ⟨hin, fun q => absurd eb q, fun _ => fm (i := 5) (by omega) (by decide) Rτ E (fun _ J => ⟨rfl, J⟩)⟩)
  · refine s_shFn ns ⟨fun z => absurd z (by decide), fun _ => ff (i := 0) (by omega) (by decide) R D (fun τ F Rτ E => ?_)⟩
    unfold P_X7_write
    exact shm_n ns (bF' (fm (i := 0) (by omega) (by decide) Rτ E (fun _ J => ⟨rfl, J⟩)))
