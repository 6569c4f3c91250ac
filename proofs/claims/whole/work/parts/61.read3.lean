theorem m_rzero {h : MH} (hw : Wf h) {l1 l2 : Int32} {σ : St} {K : St → Prop} {Q : Int64 → St → Prop} (kk : ∀ τ, Fr (isC 54) σ τ → (∀ s, s ≤ now h → gL τ 54 s = 0) → K τ) : ∃ m, P_X7_read_l67 l1 l2 (nI (now h)) K Q m 0 σ := by
  have hn := now_lt hw
  refine ⟨now h + 2, ?_⟩
  have head : ∀ n s τ, n = now h + 1 - s → s ≤ now h + 1 → Fr (isC 54) σ τ → (∀ k, k < s → gL τ 54 k = 0) → P_X7_read_l67 l1 l2 (nI (now h)) K Q (n + 1) (nI s) τ := by
    intro n
    induction n with
    | zero =>
      intro s τ hs hs2 F A
      rw [P_X7_read_l67]
      exact ⟨fun _ => kk τ F (fun k hk => A k (by omega)), fun z => absurd (nI_lt (by omega) (by omega)) z⟩
    | succ n ih =>
      intro s τ hs hs2 F A
      rw [P_X7_read_l67]
      refine ⟨fun z => absurd ((nI_ltI (by omega) (by omega)).mp z) (by omega), fun _ => ⟨in_I (by omega) (by omega), ?_⟩⟩
      rw [nI_clamp (by omega), nI_1]
      refine ih (s + 1) _ (by omega) (by omega) (F.sL rfl _ _) (fun k hk => ?_)
      by_cases e : k = s
      · rw [e, gL_eq]
      · rw [gL_ne (by omega)]; exact A k (by omega)
  exact head (now h + 1) 0 σ (by omega) (by omega) Fr.rf (fun k hk => by omega)
theorem pp_read {σ : St} (I : Inv σ) (p0 : Int32) : SameL (P_X6_read p0 σ) (P_X7_read p0) := by
  have I0 := I
  obtain ⟨h, R, D⟩ := I
  obtain ⟨hw, hn, H, M, K⟩ := id R
  have hnl := now_lt hw
  obtain ⟨B, Z, S⟩ := K.2.2
  unfold SameL P_X6_read
  rcases rn p0 0 3 with ⟨s, _, s3, rfl⟩ | ns
  · have h4 : s < 4 := by omega
    have hin : vp_in (nI s) 4 := in_I h4 (by omega)
    obtain ⟨a1, a2, a3, a4, a5, a6, a7⟩ := S s h4
    have e0 : nI (B s) = 0 ↔ B s = 0 := nI_eq (b := 0) (by omega) (by omega)
    have e28 : nI (Z s) ≤ 28 ↔ Z s ≤ 28 := nI_leI (b := 28) (by omega) (by omega)
    refine s_shF s3 (by omega) a3 (fun nb => ⟨fun _ => ⟨hin, ?_⟩, fun z => absurd rfl z⟩) (fun eb => ⟨fun z => absurd z (by decide), fun _ => ?_⟩)
    · rw [nI_clamp (by omega), a5]
      refine ⟨fun z => s_measure H hw (by omega) (fun τ F hV => ?_), fun z => ?_⟩
      · have z28 := e28.mp z
        have t2 : ∀ θ, Fr (isC 24) τ θ → gI θ (41 + 2 * s) 2 = nI (Z s) := fun θ G => by
          rw [G.i (fun (y : 41 + 2 * s = 24) => by omega), F.i (fun y => by have := y.2; omega)]; exact a5
        refine s_fill (ok := okS (gL σ (41 + 2 * s + 1)) (Z s) h) hV hw (Or.inr ⟨by omega, fun θ G u w _ _ _ Q q => s_tells a2 (t2 θ G) (fun j _ => by rw [G.l (fun (y : 41 + 2 * s + 1 = 24) => by omega), F.l (fun y => by have := y.2; omega)]) q⟩) (fun θ G W => ?_)
        rw [t2 θ G]
        refine s_waysBy hw (Sv24 hV G) W z28 ?_
        have F2 : Fr sc σ θ := (F.mono inS_sc).tr (G.mono (fun k (y : k = 24) => by omega))
        have M1 := M.fr F2 (by decide)
        unfold P_X7_read
        dsimp only
        rw [nI_clamp (by omega), F2.i (k := 59) (by decide), F2.i (k := 60) (by decide), a4, a6, e0]
        refine shm_y s3 (bT' ⟨hin, fun _ => ⟨hin, fun _ => m_findTops M1 hw (fun ρ G2 O => m_standNow (M1.fr G2 (by decide)) hw (m_rzero hw (fun π G3 A => ⟨in_I (by omega) (by omega), now h + 2, ?_⟩))), fun y => absurd z y⟩, fun q => absurd q nb⟩)
        rw [nI_clamp (by omega)]
        have F3 : Fr (isC 54) ρ (sL π 54 (now h) 1) := G3.sL rfl _ _
        have M2 := (M1.fr G2 (by decide)).fr F3 (by decide)
        have J := (I0.fr F2).fr (G2.mono inT_sc)
        have key := m_read100 (s := s) (Z := Z s) (f := gL σ (41 + 2 * s + 1)) (K := fun k4 t250 => lN (wsN h (okS (gL σ (41 + 2 * s + 1)) (Z s) h) (Z s) (now h + 1)) = k4 ∧ Inv t250) (Q := fun r' τ' => lN (wsN h (okS (gL σ (41 + 2 * s + 1)) (Z s) h) (Z s) (now h + 1)) = r' ∧ Inv τ') hw M2 (O.fr F3 (by decide) (by decide)) h4 z28 (fun j hj => by rw [F3.l (k := 61) (by decide), G2.l (k := 61) (by decide), F2.l (k := 61) (by decide)]; exact (a7 j hj).symm) (fun ω Fω => ⟨rfl, J.fr ((F3.tr Fω).mono (fun k (y : k = 54) => by omega))⟩) (now h + 1) 0 (sL π 54 (now h) 1) (by omega) (by omega) Fr.rf (AR2_0 (fun t ht => ?_))
        · rw [nI_pred] at key; exact key
        · by_cases e : t = now h
          · rw [e, gL_eq, if_pos rfl]
          · rw [gL_ne (by omega), if_neg e]; exact A t ht
      · refine ff (i := 6) (by omega) (by decide) R D (fun τ F Rτ E => ?_)
        unfold P_X7_read
        dsimp only
        rw [nI_clamp (n := s) (by omega), F.i (k := 59) (by decide), F.i (k := 60) (by decide), a4, a6, e0]
        exact shm_y s3 (bT' ⟨hin, fun _ => ⟨hin, fun q => absurd q z, fun _ => fm (i := 6) (by omega) (by decide) Rτ E (fun _ J => ⟨rfl, J⟩)⟩, fun q => absurd q nb⟩)
    · refine ff (i := 5) (by omega) (by decide) R D (fun τ F Rτ E => ?_)
      unfold P_X7_read
      dsimp only
      rw [nI_clamp (n := s) (by omega), F.i (k := 59) (by decide), a4, e0]
      exact shm_y s3 (bT' ⟨hin, fun q => absurd eb q, fun _ => fm (i := 5) (by omega) (by decide) Rτ E (fun _ J => ⟨rfl, J⟩)⟩)
  · refine s_shFn ns ⟨fun z => absurd z (by decide), fun _ => ff (i := 0) (by omega) (by decide) R D (fun τ F Rτ E => ?_)⟩
    unfold P_X7_read
    exact shm_n ns (bF' (fm (i := 0) (by omega) (by decide) Rτ E (fun _ J => ⟨rfl, J⟩)))
