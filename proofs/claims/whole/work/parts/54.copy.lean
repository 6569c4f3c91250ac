/-! COPY -/
def HPc (Z : Nat) (p n : Int32) : Prop := 0 ≤ p ∧ 0 ≤ n ∧ n ≤ nI Z ∧ p ≤ nI Z - n
theorem HPc_ex {Z : Nat} (hZ : Z ≤ 40) {p n : Int32} (c : HPc Z p n) : ∃ a k, p = nI a ∧ n = nI k ∧ a + k ≤ Z := by
  obtain ⟨h1, h2, h3, h5⟩ := c
  obtain ⟨k, _, k2, rfl⟩ := rng (a := 0) (b := Z) (by omega) (by omega) ⟨h2, h3⟩
  rw [pk_sub k2] at h5
  obtain ⟨a, _, a2, rfl⟩ := rng (a := 0) (b := Z - k) (by omega) (by omega) ⟨h1, h5⟩
  exact ⟨a, k, rfl, rfl, by omega⟩
theorem s_hasPart {σ : St} {a0 Z : Nat} {p n : Int32} (e : gI σ a0 2 = nI Z) {Q : Bool → Prop} (t : HPc Z p n → Q true) (f : ¬ HPc Z p n → Q false) : P_X2_hasPart a0 p n σ Q := by
  unfold P_X2_hasPart
  rw [e]
  exact ⟨fun z => f (fun c => absurd z (Int32.not_lt.mpr c.1)), fun z1 => ⟨fun z => f (fun c => absurd z (Int32.not_lt.mpr c.2.1)), fun z2 => ⟨fun z => f (fun c => absurd z (Int32.not_lt.mpr c.2.2.1)), fun z3 => ⟨fun z => f (fun c => absurd z (Int32.not_lt.mpr c.2.2.2)), fun z4 => t ⟨Int32.not_lt.mp z1, Int32.not_lt.mp z2, Int32.not_lt.mp z3, Int32.not_lt.mp z4⟩⟩⟩⟩⟩
theorem m_isPart {σ : St} {s Z : Nat} (h4 : s < 4) {p n : Int32} (e : gI σ 60 s = nI Z) {Q : Bool → Prop} (t : HPc Z p n → Q true) (f : ¬ HPc Z p n → Q false) : P_X7_isPart (nI s) p n σ Q := by
  have hin : vp_in (nI s) 4 := in_I h4 (by omega)
  unfold P_X7_isPart
  rw [nI_clamp (by omega), e]
  exact ⟨fun z => f (fun c => absurd z (Int32.not_lt.mpr c.1)), fun z1 => ⟨fun z => f (fun c => absurd z (Int32.not_lt.mpr c.2.1)), fun z2 => ⟨hin, fun z => f (fun c => absurd z (Int32.not_lt.mpr c.2.2.1)), fun z3 => ⟨hin, fun z => f (fun c => absurd z (Int32.not_lt.mpr c.2.2.2)), fun z4 => t ⟨Int32.not_lt.mp z1, Int32.not_lt.mp z2, Int32.not_lt.mp z3, Int32.not_lt.mp z4⟩⟩⟩⟩⟩
theorem e40b {s a k : Nat} : (((40 : Int32) * nI s) + nI a) + nI k = nI (40 * s + a + k) := by rw [e40, nI_add]
theorem m_cp102 {σ : St} {s a n : Nat} {l3 l4 : Int32} (h4 : s < 4) (han : a + n ≤ 40) {K : St → Prop} {Q : Int32 → St → Prop} (kk : ∀ τ, Fr (isC 62) σ τ → (∀ j, j < n → gL τ 62 j = gL σ 61 (40 * s + a + j)) → K τ) : ∃ m, P_X7_copy_l102 (nI s) (nI a) l3 l4 (nI n) K Q m 0 σ := by
  refine ⟨n + 1, ?_⟩
  have head : ∀ m i τ, m = n - i → i ≤ n → Fr (isC 62) σ τ → (∀ j, j < i → gL τ 62 j = gL σ 61 (40 * s + a + j)) → P_X7_copy_l102 (nI s) (nI a) l3 l4 (nI n) K Q (m + 1) (nI i) τ := by
    intro m
    induction m with
    | zero =>
      intro i τ hm hi F h1
      have e : i = n := by omega
      subst e
      rw [P_X7_copy_l102]
      exact ⟨fun _ => kk τ F h1, fun z => absurd (nI_le (Nat.le_refl i) (by omega)) z⟩
    | succ m ih =>
      intro i τ hm hi F h1
      rw [P_X7_copy_l102, nI_1, e40b, nI_clamp (n := 40 * s + a + i) (by omega), nI_clamp (n := i) (by omega)]
      refine ⟨fun z => absurd ((nI_leI (by omega) (by omega)).mp z) (by omega), fun _ => ⟨in_I (by omega) (by omega), in_I (by omega) (by omega), ?_⟩⟩
      refine ih (i + 1) _ (by omega) (by omega) (F.sL rfl _ _) (fun j hj => ?_)
      by_cases e : j = i
      · subst e; rw [gL_eq]; exact F.l (by decide) _
      · rw [gL_ne (by omega)]; exact h1 j (by omega)
  exact head n 0 σ (by omega) (by omega) Fr.rf (fun j hj => by omega)
theorem m_cp139 {σ : St} {s a n : Nat} (h4 : s < 4) (han : a + n ≤ 40) {K : St → Prop} {Q : Int32 → St → Prop} (kk : ∀ τ, Fr (isC 61) σ τ → (∀ j, j < n → gL τ 61 (40 * s + a + j) = gL σ 62 j) → (∀ j, ¬ (40 * s + a ≤ j ∧ j < 40 * s + a + n) → gL τ 61 j = gL σ 61 j) → K τ) : ∃ m, P_X7_copy_l139 (nI s) (nI a) (nI n) K Q m 0 σ := by
  refine ⟨n + 1, ?_⟩
  have head : ∀ m i τ, m = n - i → i ≤ n → Fr (isC 61) σ τ → (∀ j, j < i → gL τ 61 (40 * s + a + j) = gL σ 62 j) → (∀ j, ¬ (40 * s + a ≤ j ∧ j < 40 * s + a + n) → gL τ 61 j = gL σ 61 j) → P_X7_copy_l139 (nI s) (nI a) (nI n) K Q (m + 1) (nI i) τ := by
    intro m
    induction m with
    | zero =>
      intro i τ hm hi F h1 h2
      have e : i = n := by omega
      subst e
      rw [P_X7_copy_l139]
      exact ⟨fun _ => kk τ F h1 h2, fun z => absurd (nI_le (Nat.le_refl i) (by omega)) z⟩
    | succ m ih =>
      intro i τ hm hi F h1 h2
      rw [P_X7_copy_l139, nI_1, e40b, nI_clamp (n := 40 * s + a + i) (by omega), nI_clamp (n := i) (by omega)]
      refine ⟨fun z => absurd ((nI_leI (by omega) (by omega)).mp z) (by omega), fun _ => ⟨in_I (by omega) (by omega), in_I (by omega) (by omega), ?_⟩⟩
      refine ih (i + 1) _ (by omega) (by omega) (F.sL rfl _ _) (fun j hj => ?_) (fun j hj => ?_)
      · by_cases e : j = i
        · subst e; rw [gL_eq]; exact F.l (by decide) _
        · rw [gL_ne (by omega)]; exact h1 j (by omega)
      · rw [gL_ne (by omega)]; exact h2 j hj
  exact head n 0 σ (by omega) (by omega) Fr.rf (fun j hj => by omega) (fun _ _ => rfl)
theorem pp_copy {σ : St} (I : Inv σ) (p0 p1 p2 p3 p4 : Int32) : Same (P_X6_copy p0 p1 p2 p3 p4 σ) (P_X7_copy p0 p1 p2 p3 p4) := by
  obtain ⟨h, R, D⟩ := I
  obtain ⟨hw, hn, H, M, K⟩ := id R
  obtain ⟨B, Z, S⟩ := K.2.2
  unfold Same P_X6_copy
  rcases rn p0 0 3 with ⟨s, _, s3, rfl⟩ | ns
  · refine she_y s3 (bT ?_)
    rcases rn p2 0 3 with ⟨t, _, t3, rfl⟩ | nt
    · have s4 : s < 4 := by omega
      have t4 : t < 4 := by omega
      have hs : vp_in (nI s) 4 := in_I s4 (by omega)
      have ht : vp_in (nI t) 4 := in_I t4 (by omega)
      obtain ⟨a1, a2, a3, a4, a5, a6, a7⟩ := S s s4
      obtain ⟨b1, b2, b3, b4, b5, b6, b7⟩ := S t t4
      have es : nI (B s) = 0 ↔ B s = 0 := nI_eq (b := 0) (by omega) (by omega)
      have et : nI (B t) = 0 ↔ B t = 0 := nI_eq (b := 0) (by omega) (by omega)
      have ee : nI (B s) = nI (B t) ↔ B s = B t := nI_eq (by omega) (by omega)
      -- the reference, once its sheets are as they were
      have mod : ∀ (τ : St) (X : Int32 → St → Prop), (∀ k j, 59 ≤ k → k ≤ 60 → gI τ k j = gI σ k j) →
          (B s = 0 ∨ B t = 0 → P_X7_finds (-1000000006) τ X) → (B s ≠ 0 → B t ≠ 0 → B s ≠ B t → P_X7_finds (-1000000003) τ X) →
          (B s ≠ 0 → B t ≠ 0 → B s = B t → ¬ (HPc (Z s) p1 p4 ∧ HPc (Z t) p3 p4) → P_X7_finds (-1000000001) τ X) →
          (B s ≠ 0 → B t ≠ 0 → B s = B t → HPc (Z s) p1 p4 → HPc (Z t) p3 p4 → ∃ m102, P_X7_copy_l102 (nI s) p1 (nI t) p3 p4 (fun t136 => ∃ m139, P_X7_copy_l139 (nI t) p3 p4 (fun t174 => X p4 t174) X m139 0 t136) X m102 0 τ) → P_X7_copy (nI s) p1 (nI t) p3 p4 τ X := by
        intro τ X e m1 m2 m3 m4
        unfold P_X7_copy
        rw [nI_clamp (n := s) (by omega), nI_clamp (n := t) (by omega), e 59 s (by omega) (by omega), e 59 t (by omega) (by omega), a4, b4, es, et, ee]
        refine shm_y s3 (bT (shm_y t3 (bT' ⟨hs, fun z => m1 (Or.inl z), fun z => ⟨ht, fun y => ⟨hs, ht, fun q => m_isPart s4 ((e 60 s (by omega) (by omega)).trans a6) (fun c1 => bT (m_isPart t4 ((e 60 t (by omega) (by omega)).trans b6) (fun c2 => bT' (m4 z y q c1 c2)) (fun c2 => bF' (m3 z y q (fun c => c2 c.2))))) (fun c1 => bF (m3 z y q (fun c => c1 c.1))), fun q => m2 z y q⟩, fun y => m1 (Or.inr y)⟩⟩)))
      refine she_y t3 (bT' ⟨hs, ht, ?_⟩)
      rw [nI_clamp (n := s) (by omega), nI_clamp (n := t) (by omega), a3, b3, es, et, ee]
      have miss : B s = 0 ∨ B t = 0 → P_X6_finding (-1000000006) σ (fun r τ => P_X7_copy (nI s) p1 (nI t) p3 p4 τ (fun r' τ' => r = r' ∧ Inv τ')) := fun q =>
        ff (i := 5) (by omega) (by decide) R D (fun τ F Rτ E => mod τ _ (fun k j g l => F.i (fun (y : k = 40) => by omega) j) (fun _ => fm (i := 5) (by omega) (by decide) Rτ E (fun _ J => ⟨rfl, J⟩)) (fun x y => by omega) (fun x y => by omega) (fun x y => by omega))
      have bey : B s ≠ 0 → B t ≠ 0 → B s = B t → ¬ (HPc (Z s) p1 p4 ∧ HPc (Z t) p3 p4) → P_X6_finding (-1000000001) σ (fun r τ => P_X7_copy (nI s) p1 (nI t) p3 p4 τ (fun r' τ' => r = r' ∧ Inv τ')) := fun z y q c =>
        ff (i := 0) (by omega) (by decide) R D (fun τ F Rτ E => mod τ _ (fun k j g l => F.i (fun (y : k = 40) => by omega) j) (fun x => by omega) (fun x y q2 => absurd q q2) (fun _ _ _ _ => fm (i := 0) (by omega) (by decide) Rτ E (fun _ J => ⟨rfl, J⟩)) (fun _ _ _ c1 c2 => absurd ⟨c1, c2⟩ c))
      refine ⟨fun z => miss (Or.inl z), fun z => ⟨fun y => ⟨fun q => s_hasPart a5 (fun c1 => bT (s_hasPart b5 (fun c2 => bT' ?_) (fun c2 => bF' (bey z y q (fun c => c2 c.2))))) (fun c1 => bF (bey z y q (fun c => c1 c.1))), fun q => ?_⟩, fun y => miss (Or.inr y)⟩⟩
      · obtain ⟨a, n, rfl, rfl, an⟩ := HPc_ex a2 c1
        obtain ⟨c, n', rfl, en, cn⟩ := HPc_ex b2 c2
        have en2 : n = n' := (nI_eq (by omega) (by omega)).mp en
        subst en2
        rw [nI_clamp (n := a) (by omega), nI_clamp (n := c) (by omega), nI_clamp (n := n) (by omega)]
        refine ⟨⟨nI_pos (by omega), nI_pos (by omega), nI_pos (by omega), by omega, by omega⟩, ?_⟩
        refine mod _ _ (fun k j g l => gI_cL _ _ _ _ _ _ _ _) (fun x => by omega) (fun x y q2 => absurd q q2) (fun _ _ _ cc => absurd ⟨c1, c2⟩ cc) (fun _ _ _ _ _ => ?_)
        refine m_cp102 s4 (by omega) (fun τ F A => m_cp139 t4 (by omega) (fun ω G A2 B2 => ⟨rfl, ?_⟩))
        have F0 : Fr inSh σ (cL σ (41 + 2 * s + 1) a (41 + 2 * t + 1) c n) := Fr.rf.cL (by omega) _ _ _ _
        refine sh_inv R D ((F0.tr (F.mono (fun k q => by omega))).tr (G.mono (fun k q => by omega))) ⟨B, Z, fun u hu => ?_⟩
        obtain ⟨u1, u2, u3, u4, u5, u6, u7⟩ := S u hu
        have gi : ∀ k j, k ≠ 61 → k ≠ 62 → gI ω k j = gI σ k j := fun k j q1 q2 => by rw [G.i q1, F.i q2, gI_cL]
        have gl : ∀ k j, k ≠ 61 → k ≠ 62 → gL ω k j = gL (cL σ (41 + 2 * s + 1) a (41 + 2 * t + 1) c n) k j := fun k j q1 q2 => by rw [G.l q1, F.l q2]
        have g61 : ∀ j, gL τ 61 j = gL σ 61 j := fun j => by rw [F.l (by decide), gL_cn (by omega)]
        refine ⟨u1, u2, (gi _ _ (by omega) (by omega)).trans u3, (gi _ _ (by omega) (by omega)).trans u4, (gi _ _ (by omega) (by omega)).trans u5, (gi _ _ (by omega) (by omega)).trans u6, fun j hj => ?_⟩
        rw [gl _ _ (by omega) (by omega)]
        by_cases e : u = t ∧ c ≤ j ∧ j < c + n
        · obtain ⟨e1, e2, e3⟩ := e
          subst e1
          rw [gL_ci e2 e3, show 40 * u + j = 40 * u + c + (j - c) by omega, A2 (j - c) (by omega), A (j - c) (by omega), gL_cn (by omega), show 40 * s + a + (j - c) = 40 * s + (a + (j - c)) by omega]
          exact a7 _ (by omega)
        · rw [gL_cn (by omega), B2 _ (by omega), g61]
          exact u7 j hj
      · exact ff (i := 2) (by omega) (by decide) R D (fun τ F Rτ E => mod τ _ (fun k j g l => F.i (fun (y : k = 40) => by omega) j) (fun x => by omega) (fun _ _ _ => fm (i := 2) (by omega) (by decide) Rτ E (fun _ J => ⟨rfl, J⟩)) (fun _ _ q2 => absurd q2 q) (fun _ _ q2 => absurd q2 q))
    · refine she_n nt (bF' (bad0 R D (P2 := P_X7_copy (nI s) p1 p2 p3 p4) (fun τ Rτ X b => ?_)))
      unfold P_X7_copy
      exact shm_y s3 (bT (shm_n nt (bF' (b _ Rτ Fr.rf))))
  · refine she_n ns (bF (bad0 R D (P2 := P_X7_copy p0 p1 p2 p3 p4) (fun τ Rτ X b => ?_)))
    unfold P_X7_copy
    exact shm_n ns (bF (b _ Rτ Fr.rf))
