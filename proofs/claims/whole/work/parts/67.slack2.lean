/-! SLACKFOR, SLACKALL: the reference -/
theorem Dn_eq {σ τ : St} {h : MH} {s : Nat} (z : Dn σ h s) (e : gI τ 57 s = gI σ 57 s) : Dn τ h s := by
  obtain ⟨n, a, b, c⟩ := z
  exact ⟨n, a, e.trans b, c⟩
theorem Wy2_eq {σ τ : St} {h : MH} {a v s : Nat} (z : Wy2 σ h a v s) (e : gI τ 57 s = gI σ 57 s) : Wy2 τ h a v s := by
  obtain ⟨n, a, b, c, d⟩ := z
  exact ⟨n, a, b, e.trans c, d⟩
theorem m_sl108 {σ : St} {h : MH} (hw : Wf h) (G : Go σ h) {a : Nat} (ha : a ≤ now h) {l1 l2 : Int32} {K : St → Prop} {Q : Int32 → St → Prop}
    (kk : ∀ τ, Fr (isC 57) σ τ → (∀ s, a ≤ s → s ≤ now h → Dn τ h s) → (∀ s, s < a → Wy2 τ h a 4 s) → K τ) :
    ∀ (n v : Nat) (τ : St), n = 4 - v → v ≤ 4 → Fr (isC 57) σ τ → (∀ s, a ≤ s → s ≤ now h → Dn τ h s) → (∀ s, s < a → Wy2 τ h a v s) → P_X7_slackTo_l108 l1 l2 (nI a) K Q (n + 1) (nI v) τ := by
  have hnl := now_lt hw
  intro n
  induction n with
  | zero =>
    intro v τ hn hv F D W
    have e : v = 4 := by omega
    subst e
    rw [P_X7_slackTo_l108]
    exact ⟨fun _ => kk τ F D W, fun z => absurd (nI_le (a := 4) (b := 4) (by omega) (by omega)) z⟩
  | succ n ih =>
    intro v τ hn hv F D W
    have h4 : v < 4 := by omega
    have hin : vp_in (nI a) 4096 := in_I (by omega) (by omega)
    obtain ⟨x, x1, x2, x3⟩ := D a (Nat.le_refl _) ha
    have sm : ∀ s, gI (sI τ 57 a (nI x)) 57 s = gI τ 57 s := fun s => by
      by_cases e : s = a
      · rw [e, gI_eq, x2]
      · rw [gI_ne (by omega)]
    have same : (ed h okT a v = false ∨ (∀ s, s < a → Wy2 τ h a (v + 1) s)) → P_X7_slackTo_l108 l1 l2 (nI a) K Q (n + 1) (nI (v + 1)) (sI τ 57 a (nI x)) := fun c => by
      refine ih (v + 1) _ (by omega) (by omega) (F.sI rfl _ _) (fun s h1 h2 => Dn_eq (D s h1 h2) (sm s)) (fun s hs => Wy2_eq ?_ (sm s))
      rcases c with c | c
      · exact Wy2_skip (W s hs) (Or.inl c)
      · exact c s hs
    rw [P_X7_slackTo_l108, nI_clamp (n := a) (by omega), x2, (G.fr F (by decide)) a ha, go_bit h4, un_I h4, nI_1]
    refine ⟨fun z => absurd ((nI_leI (a := 4) (by omega) (by omega)).mp z) (by omega), fun _ => ⟨hin, fun z => ?_, fun z => ⟨hin, fun y => ⟨hin, hin, same (Or.inl (nt_ y))⟩, fun y => ?_⟩⟩⟩
    · have x9 : 100 ≤ x := (nI_leI (a := 100) (by omega) (by omega)).mp z
      have np : ∀ k, k < 100 → ¬ ps h a k := fun k hk q => by have := (x3 k hk).mpr q; omega
      refine kk τ F D (fun s hs => ?_)
      have up : ∀ j, v + j ≤ 4 → Wy2 τ h a (v + j) s := by
        intro j
        induction j with
        | zero => intro _; exact W s hs
        | succ j ihj => intro hj; exact Wy2_skip (ihj (by omega)) (Or.inr np)
      have := up (4 - v) (by omega)
      rwa [show v + (4 - v) = 4 by omega] at this
    · have x9 : x < 100 := by have := mt (nI_leI (a := 100) (by omega) (by omega)).mpr z; omega
      have h8 := ed_8 h4 y
      have hp8 := p8_pos v
      obtain ⟨o, o1, o2, o3, o4⟩ := W (a - 8 ^ v) (by omega)
      have hin2 : vp_in (nI (a - 8 ^ v)) 4096 := in_I (by omega) (by omega)
      rw [pk_sub h8, nI_clamp (n := a - 8 ^ v) (by omega), o3, nI_leI (by omega) (by omega)]
      refine ⟨hin2, hin, fun q => ⟨hin, hin, same (Or.inr (fun s hs => ?_))⟩, fun q => ⟨hin, hin2, ?_⟩⟩
      · by_cases e : s = a - 8 ^ v
        · rw [e]; exact Wy2_at (W _ (by omega)) h4 y x9 x3 o3 ⟨o, o3, o1, by omega⟩
        · exact Wy2_oth (W s hs) (by omega) rfl
      · refine ih (v + 1) _ (by omega) (by omega) (F.sI rfl _ _) (fun s h1 h2 => Dn_eq (D s h1 h2) (gI_ne (by omega))) (fun s hs => ?_)
        by_cases e : s = a - 8 ^ v
        · rw [e]; exact Wy2_at (m := x) (W _ (by omega)) h4 y x9 x3 (gI_eq _ _ _ _) ⟨o, o3, o1, by omega⟩
        · exact Wy2_oth (W s hs) (by omega) (gI_ne (by omega))
theorem m_sl44 {σ : St} {h : MH} (M : Ms σ 50 h) (O : Mo σ h) (hw : Wf h) (G : Go σ h) {st : Nat} (hst : st ≤ now h) {K : St → Prop} {Q : Int32 → St → Prop}
    (kk : ∀ τ, Fr (isC 57) σ τ → Dn τ h st → K τ) :
    ∀ (n k : Nat) (τ : St), st + n = k → k ≤ now h + 1 → Fr (isC 57) σ τ → (∀ s, k ≤ s → s ≤ now h → Dn τ h s) → (∀ s, s < k → Wy2 τ h k 4 s) → (n = 0 → st ≤ now h → k ≤ st) → P_X7_slackTo_l44 (nI st) (nI (now h)) K Q (n + 1) (nI k - 1) τ := by
  have hnl := now_lt hw
  intro n
  induction n with
  | zero =>
    intro k τ hn hk F D W _
    have e : k = st := by omega
    subst e
    rw [P_X7_slackTo_l44]
    refine ⟨fun _ => kk τ F (D k (Nat.le_refl _) hst), fun z => absurd ?_ z⟩
    cases k with
    | zero => decide
    | succ k => rw [nI_pred]; exact nI_lt (by omega) (by omega)
  | succ n ih =>
    intro k τ hn hk F D W _
    obtain ⟨a, rfl⟩ : ∃ a, k = a + 1 := ⟨k - 1, by omega⟩
    have ha : a ≤ now h := by omega
    have hin : vp_in (nI a) 4096 := in_I (by omega) (by omega)
    obtain ⟨x, x1, x2, x3, x4⟩ := W a (by omega)
    have x5 : ∀ k, k < 100 → (x ≤ k ↔ a = now h ∨ ∃ w, w < 4 ∧ ed h okT (a + 8 ^ w) w = true ∧ ps h (a + 8 ^ w) k) := fun k hk => (x4 k hk).trans (or_congr Iff.rfl ⟨fun ⟨w, h4, e, _, p⟩ => ⟨w, h4, e, p⟩, fun ⟨w, h4, e, p⟩ => ⟨w, h4, e, by have := p8_pos w; omega, p⟩⟩)
    have nx : ∀ m, m ≤ 1000 → (∀ k, k < 100 → (m ≤ k ↔ ps h a k)) → ∃ m108, P_X7_slackTo_l108 (nI st) (nI (now h)) (nI a) (fun t189 => P_X7_slackTo_l44 (nI st) (nI (now h)) K Q (n + 1) (nI a - 1) t189) Q m108 0 (sI τ 57 a (nI m)) := by
      intro m hm c
      refine ⟨5, m_sl108 hw G ha (fun ρ Fρ Dρ Wρ => ?_) 4 0 _ (by omega) (by omega) (F.sI rfl _ _) (fun s h1 h2 => ?_) (fun s hs => ?_)⟩
      · exact ih a ρ (by omega) (by omega) Fρ Dρ Wρ (fun _ _ => by omega)
      · by_cases e : s = a
        · rw [e]; exact ⟨m, hm, gI_eq _ _ _ _, c⟩
        · exact Dn_eq (D s (by omega) h2) (gI_ne (by omega))
      · exact Wy2_eq (Wy2_nx (W s (by omega)) (by omega)) (gI_ne (by omega))
    rw [P_X7_slackTo_l44, nI_pred, nI_clamp (n := a) (by omega), x3, show nI a + (-1) = nI a - 1 from (Int32.sub_eq_add_neg _ _).symm]
    refine ⟨fun z => absurd ((nI_ltI (by omega) (by omega)).mp z) (by omega), fun _ => ⟨fun z => ⟨hin, fun _ => ⟨hin, hin, nx x x1 (fun k hk => ?_)⟩, fun y => absurd (nI_pos' (by omega)) y⟩, fun z => ⟨hin, fun y => ?_, fun y => ⟨hin, fun _ => ⟨hin, hin, nx x x1 (fun k hk => ?_)⟩, fun y => absurd (nI_pos' (by omega)) y⟩⟩⟩⟩
    · have e : a = now h := (nI_eq (by omega) (by omega)).mp z
      rw [x5 k hk, ps_iff]
      exact ⟨fun _ => Or.inl e, fun _ => Or.inl e⟩
    · have ne : a ≠ now h := fun e => z (by rw [e])
      have x9 : x < 100 := by
        rcases x2 with q | q
        · exact q
        · exact absurd (by rw [q]; rfl) y
      have hp : prB h a = true := by
        rcases (x5 x x9).mp (Nat.le_refl _) with q | ⟨w, h4, e, _⟩
        · exact absurd q ne
        · exact ed_dn h4 e
      have hwd := wd_le hw hp
      refine m_widest (M.fr F (by decide)) (O.fr F (by decide) (by decide)) hw hp ?_
      rw [nI_leI (by omega) (by omega)]
      refine ⟨hin, fun q => ⟨hin, hin, nx x x1 (fun k hk => ?_)⟩, fun q => ⟨hin, nx (wd h a) (by omega) (fun k hk => ?_)⟩⟩
      · rw [ps_iff]
        constructor
        · intro r
          rcases (x5 k hk).mp r with p | p
          · exact Or.inl p
          · exact Or.inr ⟨by omega, p⟩
        · rintro (p | ⟨_, p⟩)
          · exact absurd p ne
          · exact (x5 k hk).mpr (Or.inr p)
      · rw [ps_iff]
        constructor
        · intro r
          rcases (x5 k hk).mp (by omega) with p | p
          · exact Or.inl p
          · exact Or.inr ⟨r, p⟩
        · rintro (p | ⟨r, _⟩)
          · exact absurd p ne
          · exact r
    · have ne : a ≠ now h := fun e => z (by rw [e])
      have e : x = 1000 := (nI_eq (b := 1000) (by omega) (by omega)).mp y
      rw [ps_iff]
      constructor
      · intro r; omega
      · rintro (p | ⟨_, p⟩)
        · exact absurd p ne
        · exact (x5 k hk).mpr (Or.inr p)
theorem m_sl15 {h : MH} (hw : Wf h) {σ : St} {l1 : Int32} {K : St → Prop} {Q : Int32 → St → Prop} (kk : ∀ τ, Fr (isC 57) σ τ → (∀ s, s < now h → gI τ 57 s = 1000) → K τ) : ∃ m, P_X7_slackTo_l15 l1 (nI (now h)) K Q m 0 σ := by
  have hn := now_lt hw
  refine ⟨now h + 1, ?_⟩
  have head : ∀ n s τ, n + s = now h → Fr (isC 57) σ τ → (∀ k, k < s → gI τ 57 k = 1000) → P_X7_slackTo_l15 l1 (nI (now h)) K Q (n + 1) (nI s) τ := by
    intro n
    induction n with
    | zero =>
      intro s τ hs F A
      rw [P_X7_slackTo_l15]
      exact ⟨fun _ => kk τ F (fun k hk => A k (by omega)), fun z => absurd (nI_le (by omega) (by omega)) z⟩
    | succ n ih =>
      intro s τ hs F A
      rw [P_X7_slackTo_l15]
      refine ⟨fun z => absurd ((nI_leI (by omega) (by omega)).mp z) (by omega), fun _ => ⟨in_I (by omega) (by omega), ?_⟩⟩
      rw [nI_clamp (by omega), nI_1]
      refine ih (s + 1) _ (by omega) (F.sI rfl _ _) (fun k hk => ?_)
      by_cases e : k = s
      · rw [e, gI_eq]
      · rw [gI_ne (by omega)]; exact A k (by omega)
  exact head (now h) 0 σ (by omega) Fr.rf (fun k hk => by omega)
abbrev inN : Nat → Prop := fun k => k = 52 ∨ k = 53 ∨ k = 55 ∨ k = 57
theorem inN_sc (k : Nat) (z : inN k) : sc k := by omega
theorem m_slackTo {σ : St} {h : MH} {st : Nat} (M : Ms σ 50 h) (hw : Wf h) (hst : st ≤ now h) {Q : Int32 → St → Prop}
    (q1 : ∀ π l, Fr inN σ π → l ≤ 99 → (∀ k, k < l → ¬ ps h st k) → ps h st l → Q (nI l) π) (q2 : ∀ π, Fr inN σ π → (∀ k, k < 100 → ¬ ps h st k) → P_X7_finds (-1000000004) π (fun r218 t218 => Q r218 t218)) : P_X7_slackTo (nI st) σ Q := by
  have hn := now_lt hw
  have hin : vp_in (nI st) 4096 := in_I (by omega) (by omega)
  unfold P_X7_slackTo
  refine m_findGoes M hw (fun τ F G => m_findTops (Ms55 M F) hw (fun ρ F2 O => m_standNow ((Ms55 M F).fr F2 (by decide)) hw (m_sl15 hw (fun π F3 A => ⟨in_I (by omega) (by omega), now h + 2 - st, ?_⟩))))
  rw [nI_clamp (n := now h) (by omega)]
  have F4 : Fr (isC 57) ρ (sI π 57 (now h) 0) := F3.sI rfl _ _
  have M4 := ((Ms55 M F).fr F2 (by decide)).fr F4 (by decide)
  have key := m_sl44 (st := st) (K := fun t195 => vp_in (nI st) 4096 ∧ ((100 ≤ (gI t195 57 (nI st).toNatClampNeg)) → P_X7_finds ((-1000000004)) t195 (fun r218 t218 => Q r218 t218)) ∧ ((¬ 100 ≤ (gI t195 57 (nI st).toNatClampNeg)) → vp_in (nI st) 4096 ∧ Q (gI t195 57 (nI st).toNatClampNeg) t195)) (Q := Q) M4 (O.fr F4 (by decide) (by decide)) hw ((G.fr F2 (by decide)).fr F4 (by decide)) hst (fun ω F5 D => ?_) (now h + 1 - st) (now h + 1) _ (by omega) (by omega) Fr.rf (fun s h1 h2 => by omega) (fun s hs => ?_) (fun _ _ => by omega)
  · rw [nI_pred, show now h + 1 - st + 1 = now h + 2 - st by omega] at key; exact key
  · have F6 : Fr inN σ ω := (((F.mono (fun k (z : k = 55) => by omega)).tr (F2.mono (fun k z => by omega))).tr (F4.mono (fun k (z : k = 57) => by omega))).tr (F5.mono (fun k (z : k = 57) => by omega))
    obtain ⟨x, x1, x2, x3⟩ := D
    rw [nI_clamp (by omega), x2]
    refine ⟨hin, fun z => q2 ω F6 (fun k hk q => ?_), fun z => ⟨hin, q1 ω x F6 ?_ (fun k hk q => ?_) ?_⟩⟩
    · have := (nI_leI (a := 100) (by omega) (by omega)).mp z
      have := (x3 k hk).mpr q; omega
    · have := mt (nI_leI (a := 100) (by omega) (by omega)).mpr z; omega
    · have := mt (nI_leI (a := 100) (by omega) (by omega)).mpr z
      have := (x3 k (by omega)).mpr q; omega
    · have := mt (nI_leI (a := 100) (by omega) (by omega)).mpr z
      exact (x3 x (by omega)).mp (Nat.le_refl _)
  · by_cases e : s = now h
    · refine ⟨0, by omega, Or.inl (by omega), by rw [e, gI_eq]; rfl, fun k hk => ⟨fun _ => Or.inl e, fun _ => Nat.zero_le _⟩⟩
    · refine ⟨1000, by omega, Or.inr rfl, by rw [gI_ne (by omega)]; exact A s (by omega), fun k hk => ⟨fun z => by omega, ?_⟩⟩
      rintro (z | ⟨w, h4, c, d, _⟩)
      · exact absurd z e
      · have := ed_le c; omega
theorem ps_uniq {h : MH} {s l m : Nat} (l1 : ∀ k, k < l → ¬ ps h s k) (l2 : ps h s l) (m1 : ∀ k, k < m → ¬ ps h s k) (m2 : ps h s m) : l = m := by
  rcases Nat.lt_trichotomy l m with z | z | z
  · exact absurd l2 (m1 l z)
  · exact z
  · exact absurd m2 (l1 m z)
theorem sl_pair {σ : St} {h : MH} (R : Re σ h) (D : Fdd σ) {s : Nat} (hs : s ≤ now h) {P2 : St → (Int32 → St → Prop) → Prop} (pb : ∀ τ X, Re τ h → P_X7_slackTo (nI s) τ X → P2 τ X) : P_X6_leastSlack (nI s) σ (fun r τ => P2 τ (fun r' τ' => r = r' ∧ Inv τ')) := by
  obtain ⟨hw, hn, H, M, K⟩ := id R
  refine s_leastSlack H hw hs (fun π l F l9 l1 l2 => ?_) (fun π F no => ?_)
  · have Rπ : Re π h := R.fr (F.mono (fun k z => by omega))
    refine pb _ _ Rπ (m_slackTo Rπ.2.2.2.1 hw hs (fun ω m G m9 m1 m2 => ⟨by rw [ps_uniq l1 l2 m1 m2], ?_⟩) (fun ω G no => absurd l2 (no l (by omega))))
    exact ⟨h, Rπ.fr (G.mono (fun k z => by omega)), (D.fr F (by decide) (by decide)).fr G (by decide) (by decide)⟩
  · have Rπ : Re π h := R.fr (F.mono (fun k z => by omega))
    have Dπ : Fdd π := D.fr F (by decide) (by decide)
    refine badc Rπ Dπ (i := 3) (by omega) (by decide) (P2 := P2) (fun θ Rθ X b => pb _ _ Rθ (m_slackTo Rθ.2.2.2.1 hw hs (fun ω m G m9 m1 m2 => absurd m2 (no m (by omega))) (fun ω G _ => b ω (Rθ.fr (G.mono (fun k z => by omega))) (G.mono inN_sc))))
theorem pp_slackFor {σ : St} (I : Inv σ) (p0 : Int32) : Same (P_X6_slackFor p0 σ) (P_X7_slackFor p0) := by
  obtain ⟨h, R, D⟩ := I
  obtain ⟨hw, hn, H, M, K⟩ := id R
  unfold Same P_X6_slackFor
  rcases sdc h p0 with ⟨s, rfl, hp⟩ | no
  · refine sd_y H hw hp (bT' (sl_pair (P2 := P_X7_slackFor (nI s)) R D (prB_le hp) (fun τ X Rτ q => ?_)))
    unfold P_X7_slackFor
    exact sdm_y Rτ.2.2.2.1 hw hp (bT q)
  · refine sd_n H hw no (bF' (bad0 R D (P2 := P_X7_slackFor p0) (fun τ Rτ X b => ?_)))
    unfold P_X7_slackFor
    exact sdm_n Rτ.2.2.2.1 hw no (bF (b _ Rτ Fr.rf))
theorem pp_slackAll {σ : St} (I : Inv σ) : Same (P_X6_slackAll σ) P_X7_slackAll := by
  obtain ⟨h, R, D⟩ := I
  unfold Same P_X6_slackAll
  exact sl_pair (s := 0) (P2 := P_X7_slackAll) R D (Nat.zero_le _) (fun τ X Rτ q => q)
