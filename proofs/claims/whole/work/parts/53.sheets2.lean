/-! LAYING OUT A SHEET -/
theorem s_jf {σ : St} {c N : Nat} {v : Int64} (hc : ln c = N) (hNn : N < 2 ^ 31) {Q : St → Prop} (hQ : ∀ τ, Fr (isC c) σ τ → (∀ j, j < N → gL τ c j = v) → Q τ) : P_J7_fill_d0a16 c v σ Q := by
  unfold P_J7_fill_d0a16
  rw [hc]
  refine ⟨N + 1, ?_⟩
  have head : ∀ m i τ, m = N - i → i ≤ N → Fr (isC c) σ τ → (∀ s, s < i → gL τ c s = v) → P_J7_fill_d0a16_l6 c v (Int32.ofNat N) (fun t22 => Q t22) Q (m + 1) (nI i) τ := by
    intro m
    induction m with
    | zero =>
      intro i τ hm hi F h1
      have e : i = N := by omega
      subst e
      rw [P_J7_fill_d0a16_l6]
      exact ⟨fun _ => hQ τ F h1, fun z => absurd (nI_le (Nat.le_refl i) (by omega)) z⟩
    | succ m ih =>
      intro i τ hm hi F h1
      rw [P_J7_fill_d0a16_l6, hc, nI_1, nI_clamp (by omega)]
      refine ⟨fun z => absurd ((nI_leI (a := N) (by omega) (by omega)).mp z) (by omega), fun _ => ⟨in_I (by omega) hNn, ?_⟩⟩
      refine ih (i + 1) _ (by omega) (by omega) (F.sL rfl _ _) (fun s hs => ?_)
      by_cases e : s = i
      · subst e; rw [gL_eq]
      · rw [gL_ne (by omega)]; exact h1 s (by omega)
  exact head N 0 σ (by omega) (by omega) Fr.rf (fun s hs => by omega)
theorem m_sh86 {σ : St} {s : Nat} (h4 : s < 4) {K : St → Prop} {Q : Int32 → St → Prop} (kk : ∀ τ, Fr (isC 61) σ τ → (∀ j, j < 40 → gL τ 61 (40 * s + j) = 0) → (∀ j, ¬ (40 * s ≤ j ∧ j < 40 * s + 40) → gL τ 61 j = gL σ 61 j) → K τ) : ∃ m, P_X7_sheet_l86 (nI s) K Q m 0 σ := by
  refine ⟨41, ?_⟩
  have head : ∀ m i τ, m = 40 - i → i ≤ 40 → Fr (isC 61) σ τ → (∀ j, j < i → gL τ 61 (40 * s + j) = 0) → (∀ j, ¬ (40 * s ≤ j ∧ j < 40 * s + 40) → gL τ 61 j = gL σ 61 j) → P_X7_sheet_l86 (nI s) K Q (m + 1) (nI i) τ := by
    intro m
    induction m with
    | zero =>
      intro i τ hm hi F h1 h2
      have e : i = 40 := by omega
      subst e
      rw [P_X7_sheet_l86]
      exact ⟨fun _ => kk τ F h1 h2, fun z => absurd (nI_le (a := 40) (b := 40) (by omega) (by omega)) z⟩
    | succ m ih =>
      intro i τ hm hi F h1 h2
      rw [P_X7_sheet_l86, nI_1, e40, nI_clamp (by omega)]
      refine ⟨fun z => absurd ((nI_leI (a := 40) (by omega) (by omega)).mp z) (by omega), fun _ => ⟨in_I (by omega) (by omega), ?_⟩⟩
      refine ih (i + 1) _ (by omega) (by omega) (F.sL rfl _ _) (fun j hj => ?_) (fun j hj => ?_)
      · by_cases e : j = i
        · subst e; rw [gL_eq]
        · rw [gL_ne (by omega)]; exact h1 j (by omega)
      · rw [gL_ne (by omega)]; exact h2 j hj
  exact head 40 0 σ (by omega) (by omega) Fr.rf (fun j hj => by omega) (fun _ _ => rfl)
theorem wdc (p : Int32) : (∃ b, (b = 0 ∨ b = 8 ∨ b = 16 ∨ b = 64) ∧ p = nI b) ∨ (¬ p = 0 ∧ ¬ p = 8 ∧ ¬ p = 16 ∧ ¬ p = 64) := by
  by_cases e0 : p = 0
  · exact Or.inl ⟨0, by omega, e0⟩
  · by_cases e8 : p = 8
    · exact Or.inl ⟨8, by omega, e8⟩
    · by_cases e16 : p = 16
      · exact Or.inl ⟨16, by omega, e16⟩
      · by_cases e64 : p = 64
        · exact Or.inl ⟨64, by omega, e64⟩
        · exact Or.inr ⟨e0, e8, e16, e64⟩
theorem wd_y {σ : St} {b : Nat} (hb : b = 0 ∨ b = 8 ∨ b = 16 ∨ b = 64) {Q : Bool → Prop} (q : Q true) : P_X6_isWidth (nI b) σ Q := by
  unfold P_X6_isWidth
  exact ⟨fun _ => q, fun z0 => ⟨fun _ => q, fun z8 => ⟨fun _ => q, fun z16 => ⟨fun z64 => by
    rcases hb with rfl | rfl | rfl | rfl
    · exact absurd rfl z0
    · exact absurd rfl z8
    · exact absurd rfl z16
    · exact absurd rfl z64, fun _ => q⟩⟩⟩⟩
theorem wd_n {σ : St} {p : Int32} (no : ¬ p = 0 ∧ ¬ p = 8 ∧ ¬ p = 16 ∧ ¬ p = 64) {Q : Bool → Prop} (q : Q false) : P_X6_isWidth p σ Q := by
  unfold P_X6_isWidth
  exact ⟨fun z => absurd z no.1, fun _ => ⟨fun z => absurd z no.2.1, fun _ => ⟨fun z => absurd z no.2.2.1, fun _ => ⟨fun _ => q, fun z => absurd z no.2.2.2⟩⟩⟩⟩
theorem ln_sh {s : Nat} (h4 : s < 4) : ln (41 + 2 * s + 1) = 40 := by
  rcases w4 h4 with rfl | rfl | rfl | rfl <;> decide
theorem m_sheet {σ : St} {s b : Nat} (h4 : s < 4) (hb : b = 0 ∨ b = 8 ∨ b = 16 ∨ b = 64) {p2 : Int32} {X : Int32 → St → Prop}
    (neg : ¬ 0 ≤ p2 → P_X7_finds (-1000000007) σ X) (big : 0 ≤ p2 → ¬ p2 ≤ 40 → P_X7_finds (-1000000001) σ X)
    (fit : 0 ≤ p2 → p2 ≤ 40 → ∀ z : Int32, (b = 0 → z = 0) → (b ≠ 0 → z = p2) → ∀ τ, Fr (isC 61) (sI (sI σ 59 s (nI b)) 60 s z) τ → (∀ j, j < 40 → gL τ 61 (40 * s + j) = 0) → (∀ j, ¬ (40 * s ≤ j ∧ j < 40 * s + 40) → gL τ 61 j = gL σ 61 j) → X z τ) :
    P_X7_sheet (nI s) (nI b) p2 σ X := by
  have hin : vp_in (nI s) 4 := in_I h4 (by omega)
  have lp : ∀ z : Int32, 0 ≤ p2 → p2 ≤ 40 → (b = 0 → z = 0) → (b ≠ 0 → z = p2) → ∃ m86, P_X7_sheet_l86 (nI s) (fun t112 => vp_in (nI s) 4 ∧ X (gI t112 60 s) t112) X m86 0 (sI (sI σ 59 s (nI b)) 60 s z) := by
    intro z g l zz zn
    refine m_sh86 h4 (fun τ F A B => ⟨hin, ?_⟩)
    rw [F.i (k := 60) (by decide), gI_eq]
    exact fit g l z zz zn τ F A (fun j hj => B j hj)
  unfold P_X7_sheet
  rw [nI_clamp (by omega)]
  refine shm_y (by omega) (bT ?_)
  rcases hb with rfl | rfl | rfl | rfl
  · refine ⟨fun _ => ⟨fun g => ⟨fun l => ⟨hin, fun y => absurd rfl y, fun _ => ⟨hin, lp 0 g l (fun _ => rfl) (fun y => absurd rfl y)⟩⟩, big g⟩, neg⟩, fun z => absurd rfl z⟩
  · refine ⟨fun z => absurd z (by decide), fun _ => ⟨fun _ => ⟨fun g => ⟨fun l => ⟨hin, fun _ => ⟨hin, lp p2 g l (fun y => by omega) (fun _ => rfl)⟩, fun y => absurd y (by decide)⟩, big g⟩, neg⟩, fun z => absurd rfl z⟩⟩
  · refine ⟨fun z => absurd z (by decide), fun _ => ⟨fun z => absurd z (by decide), fun _ => ⟨fun _ => ⟨fun g => ⟨fun l => ⟨hin, fun _ => ⟨hin, lp p2 g l (fun y => by omega) (fun _ => rfl)⟩, fun y => absurd y (by decide)⟩, big g⟩, neg⟩, fun z => absurd rfl z⟩⟩⟩
  · refine ⟨fun z => absurd z (by decide), fun _ => ⟨fun z => absurd z (by decide), fun _ => ⟨fun z => absurd z (by decide), fun _ => ⟨fun _ => ⟨fun g => ⟨fun l => ⟨hin, fun _ => ⟨hin, lp p2 g l (fun y => by omega) (fun _ => rfl)⟩, fun y => absurd y (by decide)⟩, big g⟩, neg⟩, fun z => absurd rfl z⟩⟩⟩⟩
theorem pp_sheet {σ : St} (I : Inv σ) (p0 p1 p2 : Int32) : Same (P_X6_sheet p0 p1 p2 σ) (P_X7_sheet p0 p1 p2) := by
  obtain ⟨h, R, D⟩ := I
  obtain ⟨hw, hn, H, M, K⟩ := id R
  obtain ⟨B, Z, S⟩ := K.2.2
  unfold Same P_X6_sheet
  rcases rn p0 0 3 with ⟨s, _, s3, rfl⟩ | ns
  · have h4 : s < 4 := by omega
    have hin : vp_in (nI s) 4 := in_I h4 (by omega)
    refine she_y s3 (bT ?_)
    rcases wdc p1 with ⟨b, hb, rfl⟩ | nb
    · refine wd_y hb (bT' ⟨fun g => ⟨fun l => ⟨hin, ?_⟩, fun l => ?_⟩, fun g => ?_⟩)
      · obtain ⟨n, _, n40, rfl⟩ := rng (a := 0) (b := 40) (by omega) (by omega) ⟨g, l⟩
        rw [nI_clamp (by omega)]
        -- with the size z that it gets
        have main : ∀ z, z ≤ 40 → (b = 0 → z = 0) → (b ≠ 0 → z = n) → P_J7_fill_d0a16 (41 + 2 * s + 1) 0 (sI (sI σ (41 + 2 * s) 1 (nI b)) (41 + 2 * s) 2 (nI z)) (fun t53 => vp_in (nI s) 4 ∧ P_X7_sheet (nI s) (nI b) (nI n) t53 (fun r' τ' => gI t53 (41 + 2 * s) 2 = r' ∧ Inv τ')) := by
          intro z z40 z0 zn
          refine s_jf (ln_sh h4) (by omega) (fun τ F A => ⟨hin, ?_⟩)
          have t1 : ∀ j, gI τ (41 + 2 * s) j = gI (sI (sI σ (41 + 2 * s) 1 (nI b)) (41 + 2 * s) 2 (nI z)) (41 + 2 * s) j := F.i (fun (q : 41 + 2 * s = 41 + 2 * s + 1) => by omega)
          have F2 : Fr inSh σ τ := ((Fr.rf.sI (by omega) _ _).sI (by omega) _ _).tr (F.mono (fun k q => by omega))
          rw [show gI τ (41 + 2 * s) 2 = nI z from (t1 2).trans (gI_eq _ _ _ _)]
          refine m_sheet h4 hb (fun q => absurd g q) (fun _ q => absurd l q) (fun _ _ y y0 yn ω G A2 B2 => ?_)
          have ey : nI z = y := by
            by_cases q : b = 0
            · rw [z0 q, y0 q]; rfl
            · rw [zn q, yn q]
          subst ey
          refine ⟨rfl, sh_inv R D (F2.tr (((Fr.rf.sI (by decide) _ _).sI (by decide) _ _).tr (G.mono (fun k q => by omega)))) ⟨fun t => if t = s then b else B t, fun t => if t = s then z else Z t, fun t ht => ?_⟩⟩
          obtain ⟨a1, a2, a3, a4, a5, a6, a7⟩ := S t ht
          have gi : ∀ k j, k ≠ 61 → gI ω k j = gI (sI (sI τ 59 s (nI b)) 60 s (nI z)) k j := fun k j q => G.i q j
          have gl : ∀ k j, k ≠ 61 → gL ω k j = gL τ k j := fun k j q => G.l q j
          dsimp only
          by_cases e : t = s
          · subst e
            rw [if_pos rfl, if_pos rfl]
            refine ⟨hb, z40, ?_, ?_, ?_, ?_, fun j hj => ?_⟩
            · rw [gi _ _ (by omega), gI_ne (by omega), gI_ne (by omega), t1, gI_ne (by omega), gI_eq]
            · rw [gi _ _ (by omega), gI_ne (by omega), gI_eq]
            · rw [gi _ _ (by omega), gI_ne (by omega), gI_ne (by omega), t1, gI_eq]
            · rw [gi _ _ (by omega), gI_eq]
            · rw [gl _ _ (by omega), A j hj, A2 j hj]
          · rw [if_neg e, if_neg e]
            have fo : ∀ j, gI τ (41 + 2 * t) j = gI σ (41 + 2 * t) j := fun j => by rw [F.i (fun (q : 41 + 2 * t = 41 + 2 * s + 1) => by omega), gI_ne (by omega), gI_ne (by omega)]
            have f5 : ∀ k j, 59 ≤ k → gI τ k j = gI σ k j := fun k j q => by rw [F.i (fun (q : k = 41 + 2 * s + 1) => by omega), gI_ne (by omega), gI_ne (by omega)]
            refine ⟨a1, a2, ?_, ?_, ?_, ?_, fun j hj => ?_⟩
            · rw [gi _ _ (by omega), gI_ne (by omega), gI_ne (by omega), fo]; exact a3
            · rw [gi _ _ (by omega), gI_ne (by omega), gI_ne (by omega), f5 _ _ (by omega)]; exact a4
            · rw [gi _ _ (by omega), gI_ne (by omega), gI_ne (by omega), fo]; exact a5
            · rw [gi _ _ (by omega), gI_ne (by omega), gI_ne (by omega), f5 _ _ (by omega)]; exact a6
            · rw [gl _ _ (by omega), B2 _ (by omega), F.l (fun (q : 41 + 2 * t + 1 = 41 + 2 * s + 1) => by omega), F.l (fun (q : 61 = 41 + 2 * s + 1) => by omega)]
              exact a7 j hj
        unfold P_X2_layOut
        have e0 : nI b = 0 ↔ b = 0 := nI_eq (b := 0) (by omega) (by omega)
        rw [e0]
        exact ⟨fun q => main n n40 (fun y => absurd y q) (fun _ => rfl), fun q => main 0 (by omega) (fun _ => rfl) (fun y => absurd q y)⟩
      · refine badc R D (i := 0) (by omega) (by decide) (P2 := P_X7_sheet (nI s) (nI b) p2) (fun τ Rτ X bb => m_sheet h4 hb (fun q => absurd g q) (fun _ _ => bb _ Rτ Fr.rf) (fun _ q => absurd q l))
      · refine badc R D (i := 6) (by omega) (by decide) (P2 := P_X7_sheet (nI s) (nI b) p2) (fun τ Rτ X bb => m_sheet h4 hb (fun _ => bb _ Rτ Fr.rf) (fun q => absurd q g) (fun q => absurd q g))
    · refine wd_n nb (bF' (bad0 R D (P2 := P_X7_sheet (nI s) p1 p2) (fun τ Rτ X b => ?_)))
      unfold P_X7_sheet
      exact shm_y s3 (bT ⟨fun z => absurd z nb.1, fun _ => ⟨fun z => absurd z nb.2.1, fun _ => ⟨fun z => absurd z nb.2.2.1, fun _ => ⟨fun z => absurd z nb.2.2.2, fun _ => b _ Rτ Fr.rf⟩⟩⟩⟩)
  · refine she_n ns (bF (bad0 R D (P2 := P_X7_sheet p0 p1 p2) (fun τ Rτ X b => ?_)))
    unfold P_X7_sheet
    exact shm_n ns (bF (b _ Rτ Fr.rf))
