/-! BOOK -/
abbrev inSS : Nat → Prop := fun k => inSh k ∨ sc k
theorem sh_inv2 {σ τ : St} {h : MH} (R : Re σ h) (D : Fdd σ) (F : Fr inSS σ τ) (S : Sh τ) : Inv τ := by
  obtain ⟨hw, hn, H, M, K⟩ := R
  obtain ⟨b, b1, e0, e1, kk⟩ := K.1
  refine ⟨h, ⟨hw, hn, H.fr F (fun j hj z => by omega), M.fr F (by decide), ⟨b, b1, by rw [F.i (by decide)]; exact e0, by rw [F.i (by decide)]; exact e1, fun z => ?_⟩, K.2.1.ex (F.i (by decide) _) (F.i (by decide) _) (F.i (by decide)) (F.i (by decide)), S⟩, D.fr F (by decide) (by decide)⟩
  obtain ⟨k, k1, k2, k3, k4⟩ := kk z
  exact ⟨k, k1, k2, k3.fr F (fun j hj z => by omega), k4.fr F (by decide)⟩
/-- what is booked at place j -/
def Bk (h : MH) (b j : Nat) (x : Int64) : Prop := ∃ r, Best h j r ∧ x = nrw b ((nI (pcoin h r)).toInt64)
theorem Bk_u {h : MH} {b j : Nat} {x y : Int64} (p : Bk h b j x) (q : Bk h b j y) : x = y := by
  obtain ⟨r, r1, rfl⟩ := p
  obtain ⟨t, t1, rfl⟩ := q
  rw [Best_u r1 t1]
theorem RK.fr {σ τ : St} {h : MH} {k : Nat} {S : Nat → Prop} (H : RK σ h k) (F : Fr S σ τ) (h2 : ¬ S 25) : RK τ h k := fun p hp => by rw [F.i h2]; exact H p hp
theorem pp_book {σ : St} (I : Inv σ) (p0 : Int32) : Same (P_X6_book p0 σ) (P_X7_book p0) := by
  obtain ⟨h, R, D⟩ := I
  obtain ⟨hw, hn, H, M, K⟩ := id R
  obtain ⟨B, Z, S⟩ := K.2.2
  unfold Same P_X6_book
  rcases rn p0 0 3 with ⟨s, _, s3, rfl⟩ | ns
  · have h4 : s < 4 := by omega
    have hin : vp_in (nI s) 4 := in_I h4 (by omega)
    obtain ⟨a1, a2, a3, a4, a5, a6, a7⟩ := S s h4
    have e0 : nI (B s) = 0 ↔ B s = 0 := nI_eq (b := 0) (by omega) (by omega)
    refine s_shF s3 (by omega) a3 (fun nb => ⟨fun _ => ⟨hin, ?_⟩, fun z => absurd rfl z⟩) (fun eb => ⟨fun z => absurd z (by decide), fun _ => ?_⟩)
    · rw [nI_clamp (by omega), a5, show mnI (nI (Z s)) 29 = nI (min (Z s) 29) from mn_I (b := 29) (by omega) (by omega)]
      refine s_standsOf H hw (by omega) (fun τ0 F0 hV0 W => s_rank hw hV0 W (fun τ F1 rk => ⟨min (Z s) 29 + 1, ?_⟩))
      have hV := Sv25 hV0 F1
      have F : Fr inSS σ τ := (F0.mono (fun k z => by omega)).tr (F1.mono (fun k z => by omega))
      -- the reference
      have mod : ∀ θ, Fr (isC (41 + 2 * s + 1)) τ θ → (∀ j, j < min (Z s) 29 → Bk h (B s) j (gL θ (41 + 2 * s + 1) j)) → (∀ j, min (Z s) 29 ≤ j → gL θ (41 + 2 * s + 1) j = gL τ (41 + 2 * s + 1) j) → P_X7_book (nI s) θ (fun r' τ' => nI (min (Z s) 29) = r' ∧ Inv τ') := by
        intro θ G A A2
        have Fθ : Fr inSS σ θ := F.tr (G.mono (fun k (z : k = 41 + 2 * s + 1) => by omega))
        have Mθ := M.fr Fθ (by decide)
        have i59 : gI θ 59 s = nI (B s) := by rw [G.i (fun (z : 59 = 41 + 2 * s + 1) => by omega), F1.i (by decide), F0.i (by decide)]; exact a4
        have i60 : gI θ 60 s = nI (Z s) := by rw [G.i (fun (z : 60 = 41 + 2 * s + 1) => by omega), F1.i (by decide), F0.i (by decide)]; exact a6
        unfold P_X7_book
        rw [nI_clamp (by omega), i59, e0]
        refine shm_y s3 (bT' ⟨hin, fun _ => m_findRows Mθ hw (fun ρ G2 O Gg Ra => ⟨min (Z s) 29 + 1, ?_⟩), fun q => absurd q nb⟩)
        have Mρ := Mθ.fr G2 (by decide)
        have head : ∀ m k ω, m = min (Z s) 29 - k → k ≤ min (Z s) 29 → Fr (isC 61) ρ ω → (∀ j, j < k → Bk h (B s) j (gL ω 61 (40 * s + j))) → (∀ j, ¬ (40 * s ≤ j ∧ j < 40 * s + k) → gL ω 61 j = gL ρ 61 j) → P_X7_book_l37 (nI s) (fun k2 t89 => nI (min (Z s) 29) = k2 ∧ Inv t89) (fun r' τ' => nI (min (Z s) 29) = r' ∧ Inv τ') (m + 1) (nI k) ω := by
          intro m
          have j60 : ∀ ω, Fr (isC 61) ρ ω → gI ω 60 s = nI (Z s) := fun ω L => by rw [L.i (by decide), G2.i (by decide)]; exact i60
          have j59 : ∀ ω, Fr (isC 61) ρ ω → gI ω 59 s = nI (B s) := fun ω L => by rw [L.i (by decide), G2.i (by decide)]; exact i59
          induction m with
          | zero =>
            intro k ω hm hk L C C2
            have ek : k = min (Z s) 29 := by omega
            rw [P_X7_book_l37, nI_clamp (by omega), j60 ω L]
            have fin : nI (min (Z s) 29) = nI k ∧ Inv ω := by
              rw [ek]
              rw [ek] at C C2
              refine ⟨rfl, sh_inv2 R D ((Fθ.tr (G2.mono (fun k z => by have := z.1; have := z.2; omega))).tr (L.mono (fun k z => by omega))) ⟨B, Z, fun t ht => ?_⟩⟩
              obtain ⟨u1, u2, u3, u4, u5, u6, u7⟩ := S t ht
              have gi : ∀ k j, (41 ≤ k ∧ k ≤ 48 ∧ k ≠ 41 + 2 * s + 1) ∨ k = 59 ∨ k = 60 → gI ω k j = gI σ k j := fun k j q => by
                rw [L.i (fun (z : k = 61) => by omega), G2.i (fun z => by have := z.1; have := z.2; omega), G.i (fun (z : k = 41 + 2 * s + 1) => by omega), F1.i (fun (z : k = 25) => by omega), F0.i (fun z => by omega)]
              refine ⟨u1, u2, (gi _ _ (by omega)).trans u3, (gi _ _ (by omega)).trans u4, (gi _ _ (by omega)).trans u5, (gi _ _ (by omega)).trans u6, fun j hj => ?_⟩
              rw [L.l (fun (z : 41 + 2 * t + 1 = 61) => by omega), G2.l (fun z => by have := z.1; have := z.2; omega)]
              by_cases e : t = s ∧ j < min (Z s) 29
              · obtain ⟨e1, e2⟩ := e
                subst e1
                exact Bk_u (A j e2) (C j e2)
              · rw [C2 _ (by omega), G2.l (k := 61) (by decide), G.l (k := 61) (fun (z : 61 = 41 + 2 * s + 1) => by omega), F1.l (k := 61) (by decide), F0.l (k := 61) (by decide)]
                have c1 : gL θ (41 + 2 * t + 1) j = gL τ (41 + 2 * t + 1) j := by
                  by_cases e2 : t = s
                  · subst e2; exact A2 j (by omega)
                  · exact G.l (fun (z : 41 + 2 * t + 1 = 41 + 2 * s + 1) => by omega) _
                rw [c1, F1.l (fun (z : 41 + 2 * t + 1 = 25) => by omega), F0.l (fun z => by omega)]
                exact u7 j hj
            refine ⟨fun _ => fin, fun z => ⟨hin, fun _ => fin, fun y => ?_⟩⟩
            have z2 := mt (nI_ltI (a := 28) (b := k) (by omega) (by omega)).mpr z
            exact absurd (nI_le (a := Z s) (b := k) (by omega) (by omega)) y
          | succ m ih =>
            intro k ω hm hk L C C2
            rw [P_X7_book_l37, nI_clamp (n := s) (by omega), j60 ω L, j59 ω L, e40, nI_clamp (n := 40 * s + k) (by omega), nI_1]
            refine ⟨fun z => absurd ((nI_ltI (a := 28) (by omega) (by omega)).mp z) (by omega), fun _ => ⟨hin, fun z => absurd ((nI_leI (by omega) (by omega)).mp z) (by omega), fun _ => ⟨hin, m_richestNow (Mρ.fr L (by decide)) (O.fr L (by decide) (by decide)) (Ra.fr L (by decide)) hw (by omega) (fun r br => m_paidIn (O.fr L (by decide) (by decide)) (V_pr (ok := okT) hw br.1) (m_narrow (by omega) ⟨in_I (by omega) (by omega), ?_⟩))⟩⟩⟩
            refine ih (k + 1) _ (by omega) (by omega) (L.sL rfl _ _) (fun j hj => ?_) (fun j hj => ?_)
            · by_cases e : j = k
              · subst e; rw [gL_eq]; exact ⟨r, br, rfl⟩
              · rw [gL_ne (by omega)]; exact C j (by omega)
            · rw [gL_ne (by omega)]; exact C2 j (by omega)
        exact head (min (Z s) 29) 0 ρ (by omega) (by omega) Fr.rf (fun j hj => by omega) (fun _ _ => rfl)
      have head : ∀ m k θ, m = min (Z s) 29 - k → k ≤ min (Z s) 29 → Fr (isC (41 + 2 * s + 1)) τ θ → (∀ j, j < k → Bk h (B s) j (gL θ (41 + 2 * s + 1) j)) → (∀ j, k ≤ j → gL θ (41 + 2 * s + 1) j = gL τ (41 + 2 * s + 1) j) → P_X6_book_l57 (41 + 2 * s) (nI (min (Z s) 29)) (fun t97 => P_X7_book (nI s) t97 (fun r' τ' => nI (min (Z s) 29) = r' ∧ Inv τ')) (fun r τ => P_X7_book (nI s) τ (fun r' τ' => r = r' ∧ Inv τ')) (m + 1) (nI k) θ := by
        intro m
        induction m with
        | zero =>
          intro k θ hm hk G A A2
          have ek : k = min (Z s) 29 := by omega
          rw [P_X6_book_l57]
          refine ⟨fun _ => mod θ G (fun j hj => A j (by omega)) (fun j hj => A2 j (by omega)), fun z => absurd (nI_le (by omega) (by omega)) z⟩
        | succ m ih =>
          intro k θ hm hk G A A2
          have hVθ : Sv θ 19 h := hV.fr G (fun j hj (z : 19 + j = 41 + 2 * s + 1) => by omega)
          rw [P_X6_book_l57, nI_1]
          refine ⟨fun z => absurd ((nI_leI (by omega) (by omega)).mp z) (by omega), fun _ => s_bestUpTo hw hVθ (rk.fr G (fun (z : 25 = 41 + 2 * s + 1) => by omega)) (by omega) (fun r br => s_coinAt hVθ (V_pr (ok := okT) hw br.1) ?_)⟩
          unfold P_X2_put
          rw [nI_clamp (by omega), show gI θ (41 + 2 * s) 1 = nI (B s) by rw [G.i (fun (z : 41 + 2 * s = 41 + 2 * s + 1) => by omega), F1.i (fun (z : 41 + 2 * s = 25) => by omega), F0.i (fun z => by omega)]; exact a3]
          refine ⟨in_I (by omega) (by omega), ih (k + 1) _ (by omega) (by omega) (G.sL rfl _ _) (fun j hj => ?_) (fun j hj => ?_)⟩
          · by_cases e : j = k
            · subst e; rw [gL_eq]; exact ⟨r, br, rfl⟩
            · rw [gL_ne (by omega)]; exact A j (by omega)
          · rw [gL_ne (by omega)]; exact A2 j (by omega)
      exact head (min (Z s) 29) 0 τ (by omega) (by omega) Fr.rf (fun j hj => by omega) (fun _ _ => rfl)
    · refine ff (i := 5) (by omega) (by decide) R D (fun τ F Rτ E => ?_)
      unfold P_X7_book
      dsimp only
      rw [nI_clamp (n := s) (by omega), F.i (k := 59) (by decide), a4, e0]
      exact shm_y s3 (bT' ⟨hin, fun q => absurd eb q, fun _ => fm (i := 5) (by omega) (by decide) Rτ E (fun _ J => ⟨rfl, J⟩)⟩)
  · refine s_shFn ns ⟨fun z => absurd z (by decide), fun _ => ff (i := 0) (by omega) (by decide) R D (fun τ F Rτ E => ?_)⟩
    unfold P_X7_book
    exact shm_n ns (bF' (fm (i := 0) (by omega) (by decide) Rτ E (fun _ J => ⟨rfl, J⟩)))
