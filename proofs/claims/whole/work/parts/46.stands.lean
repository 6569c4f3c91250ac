/-! STANDS, WAYS, LEAST, REACH -/
abbrev inW : Nat → Prop := fun k => (19 ≤ k ∧ k ≤ 22) ∨ k = 24
theorem inW_sc (k : Nat) (z : inW k) : sc k := by omega
theorem inF_sc (k : Nat) (z : inF k) : sc k := by have := z.1; have := z.2; omega
def Wy (σ : St) (h : MH) : Prop := ∀ s, s ≤ now h → gL σ 24 s = lN (V h okT s)
theorem s_standsOf {σ : St} {p : Nat} {h : MH} (H : Hs σ p h) (hw : Wf h) (hap : p + 5 < 19) {Q : Int32 → St → Prop} (hQ : ∀ τ, Fr inW σ τ → Sv τ 19 h → Wy τ h → Q (nI (cnt h okT (now h + 1))) τ) : P_X6_standsOf p σ Q := by
  unfold P_X6_standsOf
  refine s_measure H hw hap (fun τ F hV => s_fill hV hw (ok := okT) (Or.inl ⟨rfl, fun _ _ => rfl⟩) (fun ρ G A => hQ ρ ?_ (Sv24 hV G) A))
  exact (F.mono (fun k z => by have := z.1; have := z.2; omega)).tr (G.mono (fun k z => Or.inr z))
theorem s_canBe {σ : St} {p : Nat} {h : MH} (H : Hs σ p h) (hw : Wf h) (hap : p + 5 < 19) {s : Nat} (hs : s ≤ now h) {Q : Bool → St → Prop} (hQ : ∀ τ, Fr inW σ τ → Q (decide (0 < V h okT s)) τ) : P_X6_canBe p (nI s) σ Q := by
  have hn := now_lt hw
  unfold P_X6_canBe
  refine s_standsOf H hw hap (fun τ F hV W => ?_)
  rw [nI_clamp (by omega), W s hs, lgc_pos (V_lt hw s)]
  have q := hQ τ F
  refine ⟨in_I (by omega) (by omega), fun z => ?_, fun z => ?_⟩
  · rw [decide_eq_false (by omega)] at q; exact q
  · rw [decide_eq_true (by omega)] at q; exact q
theorem m_howManyNow {σ : St} {h : MH} (M : Ms σ 50 h) (G : Go σ h) (hw : Wf h) {Q : Int32 → St → Prop} (hQ : ∀ τ, Fr inR σ τ → Q (nI (cnt h okT (now h + 1))) τ) : P_X7_howManyNow σ Q := by
  have hn := now_lt hw
  unfold P_X7_howManyNow
  refine m_countRows M G hw (fun τ F O A => ⟨now h + 2, ?_⟩)
  have M1 := M.fr F (by decide)
  have head : ∀ n k, n = now h + 1 - k → k ≤ now h + 1 → P_X7_howManyNow_l8 (fun k1 t41 => Q k1 t41) Q (n + 1) (nI (cnt h okT k)) (nI k) τ := by
    intro n
    induction n with
    | zero =>
      intro k hk hk2
      rw [P_X7_howManyNow_l8]
      have e : k = now h + 1 := by omega
      subst e
      exact m_standNow M1 hw ⟨fun _ => hQ τ F, fun z => absurd (nI_lt (by omega) (by omega)) z⟩
    | succ n ih =>
      intro k hk hk2
      rw [P_X7_howManyNow_l8, nI_clamp (by omega), A k (by omega), lgc_pos (V_lt hw k), nI_1, nI_1, Int32.add_zero]
      have key := ih (k + 1) (by omega) (by omega)
      rw [show cnt h okT (k + 1) = cnt h okT k + if 0 < V h okT k then 1 else 0 from rfl] at key
      refine m_standNow M1 hw ⟨fun z => absurd ((nI_ltI (by omega) (by omega)).mp z) (by omega), fun _ => ⟨in_I (by omega) (by omega), fun z => ?_, fun z => ?_⟩⟩
      · rw [if_neg (by omega), Nat.add_zero] at key; exact key
      · rw [if_pos (by omega)] at key; exact key
  exact head (now h + 1) 0 (by omega) (by omega)
theorem m_howMany {σ : St} {h : MH} (M : Ms σ 50 h) (hw : Wf h) {Q : Int32 → St → Prop} (hQ : ∀ τ, Fr inF σ τ → Go τ h → Q (nI (cnt h okT (now h + 1))) τ) : P_X7_howMany σ Q := by
  unfold P_X7_howMany
  refine m_findGoes M hw (fun τ F G => m_howManyNow (Ms55 M F) G hw (fun ρ F2 => hQ ρ ?_ (G.fr F2 (by decide))))
  exact (F.mono (fun k (z : k = 55) => ⟨by omega, by omega⟩)).tr (F2.mono (fun k z => ⟨by omega, by omega⟩))
/-- a stand that is there -/
theorem sdc (h : MH) (p : Int32) : (∃ s, p = nI s ∧ prB h s = true) ∨ (∀ s, p = nI s → prB h s = true → False) := by
  by_cases e : ∃ s, p = nI s ∧ prB h s = true
  · exact Or.inl e
  · exact Or.inr (fun s h1 h2 => e ⟨s, h1, h2⟩)
theorem sd_y {σ : St} {h : MH} (H : Hs σ 1 h) (hw : Wf h) {s : Nat} (hp : prB h s = true) {Q : Bool → Prop} (q : Q true) : P_X6_isStand (nI s) σ Q := by
  unfold P_X6_isStand
  exact s_standNow H (s_isPartOf hw (fun _ _ _ => q) (fun no => absurd (no s rfl hp) id))
theorem sd_n {σ : St} {h : MH} (H : Hs σ 1 h) (hw : Wf h) {p : Int32} (no : ∀ s, p = nI s → prB h s = true → False) {Q : Bool → Prop} (q : Q false) : P_X6_isStand p σ Q := by
  unfold P_X6_isStand
  exact s_standNow H (s_isPartOf hw (fun s e hp => absurd (no s e hp) id) (fun _ => q))
theorem sdm_y {σ : St} {h : MH} (M : Ms σ 50 h) (hw : Wf h) {s : Nat} (hp : prB h s = true) {Q : Bool → Prop} (q : Q true) : P_X7_isStand (nI s) σ Q := m_isStand M hw (fun _ _ _ => q) (fun no => absurd (no s rfl hp) id)
theorem sdm_n {σ : St} {h : MH} (M : Ms σ 50 h) (hw : Wf h) {p : Int32} (no : ∀ s, p = nI s → prB h s = true → False) {Q : Bool → Prop} (q : Q false) : P_X7_isStand p σ Q := m_isStand M hw (fun s e hp => absurd (no s e hp) id) (fun _ => q)
theorem pp_can {σ : St} (I : Inv σ) (p0 : Int32) : Same (P_X6_can p0 σ) (P_X7_can p0) := by
  have I0 := I
  obtain ⟨h, R, D⟩ := I
  obtain ⟨hw, hn, H, M, K⟩ := id R
  have hnl := now_lt hw
  unfold Same P_X6_can
  rcases sdc h p0 with ⟨s, rfl, hp⟩ | no
  · have hs := prB_le hp
    refine sd_y H hw hp (bT' (s_canBe H hw (by omega) hs (fun τ F => asN ?_)))
    have M1 := M.fr (F.mono inW_sc) (by decide)
    unfold P_X7_can
    refine sdm_y M1 hw hp (bT' (m_findRows M1 hw (fun ρ G O Gg A => ?_)))
    rw [nI_clamp (by omega), A s hs, lgc_pos (V_lt hw s)]
    have J := (I0.fr (F.mono inW_sc)).fr (G.mono inF_sc)
    refine ⟨in_I (by omega) (by omega), fun z => ⟨?_, J⟩, fun z => ⟨?_, J⟩⟩
    · rw [decide_eq_false (by omega)]; rfl
    · rw [decide_eq_true (by omega)]; rfl
  · refine sd_n H hw no (bF' (bad0 R D (P2 := P_X7_can p0) (fun τ Rτ X b => ?_)))
    unfold P_X7_can
    exact sdm_n Rτ.2.2.2.1 hw no (bF' (b _ Rτ Fr.rf))
theorem pp_stands {σ : St} (I : Inv σ) : Same (P_X6_stands σ) P_X7_stands := by
  have I0 := I
  obtain ⟨h, R, D⟩ := I
  obtain ⟨hw, hn, H, M, K⟩ := id R
  unfold Same P_X6_stands
  refine s_standsOf H hw (by omega) (fun τ F hV W => ?_)
  unfold P_X7_stands
  exact m_howMany (M.fr (F.mono inW_sc) (by decide)) hw (fun ρ G Gg => ⟨rfl, (I0.fr (F.mono inW_sc)).fr (G.mono inF_sc)⟩)
/-- the least stand, looked for downwards -/
def lr (h : MH) : Nat → Nat → Nat
  | 0, c => c
  | k + 1, c => lr h k (if 0 < V h okT k ∧ stn k ≤ stn c then k else c)
theorem s_leastStand {σ : St} {h : MH} (hw : Wf h) (W : Wy σ h) (hV : Sv σ 19 h) {Q : Int32 → Prop} (hQ : Q (nI (lr h (now h + 1) (now h)))) : P_X1_leastStand 19 σ Q := by
  have hn := now_lt hw
  unfold P_X1_leastStand
  rw [hV.1]
  refine ⟨now h + 2, ?_⟩
  have head : ∀ k c, k ≤ now h + 1 → c < 4096 → Q (nI (lr h k c)) → P_X1_leastStand_l10 (fun k2 t44 => Q k2) Q (k + 1) (nI c) (nI k - 1) σ := by
    intro k
    induction k with
    | zero =>
      intro c hk hc q
      rw [P_X1_leastStand_l10]
      exact ⟨fun _ => q, fun z => absurd (by decide) z⟩
    | succ k ih =>
      intro c hk hc q
      rw [P_X1_leastStand_l10, nI_pred, nI_clamp (by omega), W k (by omega), lgc_pos (V_lt hw k), show nI k + (-1) = nI k - 1 from (Int32.sub_eq_add_neg _ _).symm]
      simp only [lr] at q
      have sk := stn_le k
      have scc := stn_le c
      refine ⟨fun z => absurd z (nI_pos (by omega)), fun _ => ⟨in_I (by omega) (by omega), fun z => ?_, fun z => s_stonesAt (by omega) (s_stonesAt hc ⟨fun y => ?_, fun y => ?_⟩)⟩⟩
      · rw [if_neg (by omega)] at q; exact ih c (by omega) hc q
      · have := (nI_ltI (by omega) (by omega)).mp y
        rw [if_neg (by omega)] at q; exact ih c (by omega) hc q
      · have := mt (nI_ltI (by omega) (by omega)).mpr y
        rw [if_pos ⟨by omega, by omega⟩] at q; exact ih k (by omega) (by omega) q
  have := head (now h + 1) (now h) (by omega) hn hQ
  rw [nI_pred] at this; exact this
theorem pp_least {σ : St} (I : Inv σ) : Same (P_X6_least σ) P_X7_least := by
  have I0 := I
  obtain ⟨h, R, D⟩ := I
  obtain ⟨hw, hn, H, M, K⟩ := id R
  have hnl := now_lt hw
  unfold Same P_X6_least
  refine s_standsOf H hw (by omega) (fun τ F hV W => s_leastStand hw W hV ?_)
  have M1 := M.fr (F.mono inW_sc) (by decide)
  unfold P_X7_least
  refine m_findRows M1 hw (fun ρ G O Gg A => m_standNow (M1.fr G (by decide)) hw (m_standNow (M1.fr G (by decide)) hw ⟨now h + 2, ?_⟩))
  have J := (I0.fr (F.mono inW_sc)).fr (G.mono inF_sc)
  have head : ∀ k c, k ≤ now h + 1 → c < 4096 → P_X7_least_l14 (fun k1 t52 => nI (lr h k c) = k1 ∧ Inv t52) (fun r' τ' => nI (lr h k c) = r' ∧ Inv τ') (k + 1) (nI c) (nI k - 1) ρ := by
    intro k
    induction k with
    | zero =>
      intro c hk hc
      rw [P_X7_least_l14]
      exact ⟨fun _ => ⟨rfl, J⟩, fun z => absurd (by decide) z⟩
    | succ k ih =>
      intro c hk hc
      rw [P_X7_least_l14, nI_pred, nI_clamp (by omega), A k (by omega), lgc_pos (V_lt hw k), show nI k + (-1) = nI k - 1 from (Int32.sub_eq_add_neg _ _).symm]
      simp only [lr]
      have sk := stn_le k
      have scc := stn_le c
      refine ⟨fun z => absurd z (nI_pos (by omega)), fun _ => ⟨in_I (by omega) (by omega), fun z => ?_, fun z => m_stones (by omega) (m_stones hc ⟨fun y => ?_, fun y => ?_⟩)⟩⟩
      · rw [if_neg (by omega)]; exact ih c (by omega) hc
      · have := (nI_ltI (by omega) (by omega)).mp y
        rw [if_neg (by omega)]; exact ih c (by omega) hc
      · have := mt (nI_ltI (by omega) (by omega)).mpr y
        rw [if_pos ⟨by omega, by omega⟩]; exact ih k (by omega) (by omega)
  have := head (now h + 1) (now h) (by omega) hnl
  rw [nI_pred] at this; exact this
theorem badL {σ : St} {h : MH} (R : Re σ h) (D : Fdd σ) {c : Int32} {i : Nat} (hi : i < 7) (hc : (-1000000001 : Int32) - c = nI i) {P2 : St → (Int64 → St → Prop) → Prop} (b : ∀ τ, Re τ h → ∀ X : Int64 → St → Prop, (∀ π, Re π h → Fr sc τ π → P_X7_finds c π (fun r t => X (r.toInt64) t)) → P2 τ X) : P_X6_finding c σ (fun r τ => P2 τ (fun r' τ' => r.toInt64 = r' ∧ Inv τ')) :=
  ff hi hc R D (fun τ _ Rτ E => b τ Rτ _ (fun _ Rπ F => fm hi hc Rπ (E.fr F (by decide) (by decide)) (fun _ J => ⟨rfl, J⟩)))
theorem pp_ways {σ : St} (I : Inv σ) (p0 : Int32) : SameL (P_X6_ways p0 σ) (P_X7_ways p0) := by
  have I0 := I
  obtain ⟨h, R, D⟩ := I
  obtain ⟨hw, hn, H, M, K⟩ := id R
  have hnl := now_lt hw
  unfold SameL P_X6_ways
  rcases sdc h p0 with ⟨s, rfl, hp⟩ | no
  · have hs := prB_le hp
    refine sd_y H hw hp (bT' (s_standsOf H hw (by omega) (fun τ F hV W => ⟨in_I (by omega) (by omega), ?_⟩)))
    rw [nI_clamp (by omega), W s hs]
    have M1 := M.fr (F.mono inW_sc) (by decide)
    unfold P_X7_ways
    refine sdm_y M1 hw hp (bT' (m_findRows M1 hw (fun ρ G O Gg A => ⟨in_I (by omega) (by omega), ?_⟩)))
    rw [nI_clamp (by omega), A s hs]
    exact ⟨rfl, (I0.fr (F.mono inW_sc)).fr (G.mono inF_sc)⟩
  · refine sd_n H hw no (bF' (badL R D (i := 0) (by omega) (by decide) (P2 := P_X7_ways p0) (fun τ Rτ X b => ?_)))
    unfold P_X7_ways
    exact sdm_n Rτ.2.2.2.1 hw no (bF' (b _ Rτ Fr.rf))
/-- how few stones a wall can have -/
def flw (h : MH) (w : Nat) : Nat → Nat
  | 0 => 7
  | k + 1 => if 0 < V h okT k then min (flw h w k) (lf k w) else flw h w k
theorem flw_le (h : MH) (w k : Nat) : flw h w k ≤ 7 := by
  induction k with
  | zero => exact Nat.le_refl _
  | succ k ih => simp only [flw]; split <;> omega
theorem V_now {h : MH} {ok : Nat → Nat → Bool} : V h ok (now h) = 1 := by rw [V_eq, if_pos rfl]
theorem pp_reach {σ : St} (I : Inv σ) (p0 : Int32) : Same (P_X6_reach p0 σ) (P_X7_reach p0) := by
  have I0 := I
  obtain ⟨h, R, D⟩ := I
  obtain ⟨hw, hn, H, M, K⟩ := id R
  have hnl := now_lt hw
  unfold Same P_X6_reach
  rcases rn p0 0 3 with ⟨w, _, w3, rfl⟩ | nw
  · have h4 : w < 4 := by omega
    have c7 := (hw.1 w h4).1
    refine wa_y w3 (bT' (s_standsOf H hw (by omega) (fun τ F hV W => ⟨in_I h4 (by omega), ?_⟩)))
    have H1 := H.fr (F.mono inW_sc) (fun j hj z => by omega)
    have M1 := M.fr (F.mono inW_sc) (by decide)
    rw [nI_clamp (by omega), (H1.1 w h4).1]
    have fin : flw h w (now h + 1) ≤ hC h w := by
      simp only [flw]
      rw [V_now, if_pos (by omega), lf_now hw h4]; exact Nat.min_le_right _ _
    -- the reference's side
    have mod : P_X7_reach (nI w) τ (fun r' τ' => nI (hC h w - flw h w (now h + 1)) = r' ∧ Inv τ') := by
      unfold P_X7_reach
      refine wam_y w3 (bT' (m_findRows M1 hw (fun ρ G O Gg A => ⟨now h + 2, ?_⟩)))
      have M2 := M1.fr G (by decide)
      have J := (I0.fr (F.mono inW_sc)).fr (G.mono inF_sc)
      have head : ∀ n k, n = now h + 1 - k → k ≤ now h + 1 → P_X7_reach_l22 (nI w) (fun k2 t73 => nI (hC h w - flw h w (now h + 1)) = k2 ∧ Inv t73) (fun r' τ' => nI (hC h w - flw h w (now h + 1)) = r' ∧ Inv τ') (n + 1) (nI (hC h w - flw h w k)) (nI k) ρ := by
        intro n
        induction n with
        | zero =>
          intro k hk hk2
          have e : k = now h + 1 := by omega
          subst e
          rw [P_X7_reach_l22]
          exact m_standNow M2 hw ⟨fun _ => ⟨rfl, J⟩, fun z => absurd (nI_lt (by omega) (by omega)) z⟩
        | succ n ih =>
          intro k hk hk2
          have key := ih (k + 1) (by omega) (by omega)
          rw [P_X7_reach_l22, nI_clamp (by omega), A k (by omega), lgc_pos (V_lt hw k), nI_1]
          have f7 := flw_le h w k
          refine m_standNow M2 hw ⟨fun z => absurd ((nI_ltI (by omega) (by omega)).mp z) (by omega), fun _ => m_many M2 h4 (m_left (by omega) h4 ⟨in_I (by omega) (by omega), fun z => ?_, fun z => ?_⟩)⟩
          · rw [show flw h w (k + 1) = flw h w k by simp only [flw]; rw [if_neg (by omega)]] at key; exact key
          · have hp : prB h k = true := V_pr (ok := okT) hw (by omega)
            have hl := (prB_iff.mp hp).2 w h4
            have ef : flw h w (k + 1) = min (flw h w k) (lf k w) := by simp only [flw]; rw [if_pos (by omega)]
            rw [ef] at key
            rw [pk_sub hl]
            refine ⟨fun y => ?_, fun y => ?_⟩
            · have := (nI_leI (by omega) (by omega)).mp y
              rw [show hC h w - min (flw h w k) (lf k w) = hC h w - flw h w k by omega] at key; exact key
            · have := mt (nI_leI (a := hC h w - lf k w) (b := hC h w - flw h w k) (by omega) (by omega)).mpr y
              rw [show hC h w - min (flw h w k) (lf k w) = hC h w - lf k w by omega] at key; exact key
      have := head (now h + 1) 0 (by omega) (by omega)
      rw [show hC h w - flw h w 0 = 0 by simp only [flw]; omega] at this
      exact this
    unfold P_X1_fewestLeft
    refine ⟨now h + 2, ?_⟩
    have head : ∀ n k, n = now h + 1 - k → k ≤ now h + 1 → P_X1_fewestLeft_l6 19 (nI w) (fun k3 t44 => P_X7_reach (nI w) τ (fun r' τ' => nI (hC h w) - k3 = r' ∧ Inv τ')) (fun k3 => P_X7_reach (nI w) τ (fun r' τ' => nI (hC h w) - k3 = r' ∧ Inv τ')) (n + 1) (nI (flw h w k)) (nI k) τ := by
      intro n
      induction n with
      | zero =>
        intro k hk hk2
        have e : k = now h + 1 := by omega
        subst e
        rw [P_X1_fewestLeft_l6, hV.1]
        refine ⟨fun _ => ?_, fun z => absurd (nI_lt (by omega) (by omega)) z⟩
        rw [pk_sub fin]; exact mod
      | succ n ih =>
        intro k hk hk2
        have key := ih (k + 1) (by omega) (by omega)
        rw [P_X1_fewestLeft_l6, hV.1, nI_clamp (by omega), W k (by omega), lgc_pos (V_lt hw k), nI_1]
        have f7 := flw_le h w k
        have l8 := lf_lt k w
        refine ⟨fun z => absurd ((nI_ltI (by omega) (by omega)).mp z) (by omega), fun _ => ⟨in_I (by omega) (by omega), fun z => ?_, fun z => s_leftAt (by omega) h4 ?_⟩⟩
        · rw [show flw h w (k + 1) = flw h w k by simp only [flw]; rw [if_neg (by omega)]] at key; exact key
        · rw [mn_I (by omega) (by omega)]
          rw [show flw h w (k + 1) = min (flw h w k) (lf k w) by simp only [flw]; rw [if_pos (by omega)]] at key; exact key
    exact head (now h + 1) 0 (by omega) (by omega)
  · refine wa_n nw (bF' (bad0 R D (P2 := P_X7_reach p0) (fun τ Rτ X b => ?_)))
    unfold P_X7_reach
    exact wam_n nw (bF' (b _ Rτ Fr.rf))
