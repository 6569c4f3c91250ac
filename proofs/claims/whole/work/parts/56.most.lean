/-! MOST, WHERE -/
def bet (h : MH) (s t : Nat) : Prop := pcoin h t < pcoin h s ∨ (pcoin h t = pcoin h s ∧ (stn t < stn s ∨ (stn t = stn s ∧ s ≤ t)))
/-- the best stand by n pulls or fewer -/
def Best (h : MH) (n r : Nat) : Prop := 0 < V h okT r ∧ stn (now h) - stn r ≤ n ∧ ∀ t, 0 < V h okT t → stn (now h) - stn t ≤ n → bet h r t
theorem Best_u {h : MH} {n r q : Nat} (a : Best h n r) (b : Best h n q) : r = q := by
  have x := a.2.2 q b.1 b.2.1
  have y := b.2.2 r a.1 a.2.1
  unfold bet at x y
  omega
def RK (τ : St) (h : MH) (k : Nat) : Prop := ∀ p, p ≤ 28 → (gI τ 25 p = -1 ∧ ∀ t, t < k → 0 < V h okT t → stn (now h) - stn t = p → False) ∨ ∃ b, b < k ∧ gI τ 25 p = nI b ∧ 0 < V h okT b ∧ stn (now h) - stn b = p ∧ ∀ t, t < k → 0 < V h okT t → stn (now h) - stn t = p → pcoin h t < pcoin h b ∨ (pcoin h t = pcoin h b ∧ b ≤ t)
theorem s_jf3 {σ : St} {c N : Nat} {v : Int32} (hc : ln c = N) (hNn : N < 2 ^ 31) {Q : St → Prop} (hQ : ∀ τ, Fr (isC c) σ τ → (∀ j, j < N → gI τ c j = v) → Q τ) : P_J7_fill_53178 c v σ Q := by
  unfold P_J7_fill_53178
  rw [hc]
  refine ⟨N + 1, ?_⟩
  have head : ∀ m i τ, m = N - i → i ≤ N → Fr (isC c) σ τ → (∀ s, s < i → gI τ c s = v) → P_J7_fill_53178_l5 c v (Int32.ofNat N) (fun t20 => Q t20) Q (m + 1) (nI i) τ := by
    intro m
    induction m with
    | zero =>
      intro i τ hm hi F h1
      have e : i = N := by omega
      subst e
      rw [P_J7_fill_53178_l5]
      exact ⟨fun _ => hQ τ F h1, fun z => absurd (nI_le (Nat.le_refl i) (by omega)) z⟩
    | succ m ih =>
      intro i τ hm hi F h1
      rw [P_J7_fill_53178_l5, hc, nI_1, nI_clamp (by omega)]
      refine ⟨fun z => absurd ((nI_leI (a := N) (by omega) (by omega)).mp z) (by omega), fun _ => ⟨in_I (by omega) hNn, ?_⟩⟩
      refine ih (i + 1) _ (by omega) (by omega) (F.sI rfl _ _) (fun s hs => ?_)
      by_cases e : s = i
      · subst e; rw [gI_eq]
      · rw [gI_ne (by omega)]; exact h1 s (by omega)
  exact head N 0 σ (by omega) (by omega) Fr.rf (fun s hs => by omega)
theorem Sv25 {σ τ : St} {h : MH} (hV : Sv σ 19 h) (F : Fr (isC 25) σ τ) : Sv τ 19 h := hV.fr F (fun j hj (z : 19 + j = 25) => by omega)
theorem s_rank {σ : St} {h : MH} (hw : Wf h) (hV : Sv σ 19 h) (W : Wy σ h) {Q : St → Prop} (hQ : ∀ τ, Fr (isC 25) σ τ → RK τ h (now h + 1) → Q τ) : P_X1_rank 19 σ Q := by
  have hn := now_lt hw
  have s28 := stn_le (now h)
  unfold P_X1_rank
  refine s_jf3 (c := 25) (N := 29) (by decide) (by omega) (fun τ F A => ⟨now h + 2, ?_⟩)
  have head : ∀ n k θ, n = now h + 1 - k → k ≤ now h + 1 → Fr (isC 25) σ θ → RK θ h k → P_X1_rank_l10 19 (fun t75 => Q t75) Q (n + 1) (nI k) θ := by
    intro n
    induction n with
    | zero =>
      intro k θ hk hk2 G rk
      have e : k = now h + 1 := by omega
      subst e
      rw [P_X1_rank_l10, (Sv25 hV G).1]
      exact ⟨fun _ => hQ θ G rk, fun z => absurd (nI_lt (by omega) (by omega)) z⟩
    | succ n ih =>
      intro k θ hk hk2 G rk
      rw [P_X1_rank_l10, (Sv25 hV G).1, nI_clamp (n := k) (by omega), G.l (k := 24) (by decide), W k (by omega), lgc_pos (V_lt hw k), nI_1]
      refine ⟨fun z => absurd ((nI_ltI (by omega) (by omega)).mp z) (by omega), fun _ => ⟨in_I (by omega) (by omega), fun z => ?_, fun z => ?_⟩⟩
      · refine ih (k + 1) θ (by omega) (by omega) G (fun p hp => ?_)
        rcases rk p hp with ⟨r1, r2⟩ | ⟨b, b1, b2, b3, b4, b5⟩
        · exact Or.inl ⟨r1, fun t ht tv tp => r2 t (by
            by_cases e : t = k
            · subst e; omega
            · omega) tv tp⟩
        · exact Or.inr ⟨b, by omega, b2, b3, b4, fun t ht tv tp => b5 t (by
            by_cases e : t = k
            · subst e; omega
            · omega) tv tp⟩
      · have hp : prB h k = true := V_pr (ok := okT) hw (by omega)
        have slt := stn_lt hw hp
        -- the place of k is its own from now on
        have put : ∀ (ω : St), (∀ t, t < k → 0 < V h okT t → stn (now h) - stn t = stn (now h) - stn k → pcoin h t < pcoin h k) → P_X1_rank_l10 19 (fun t75 => Q t75) Q (n + 1) (nI (k + 1)) (sI θ 25 (stn (now h) - stn k) (nI k)) := by
          intro _ c
          refine ih (k + 1) _ (by omega) (by omega) (G.sI rfl _ _) (fun p hp2 => ?_)
          by_cases e : p = stn (now h) - stn k
          · subst e
            refine Or.inr ⟨k, by omega, gI_eq _ _ _ _, by omega, rfl, fun t ht tv tp => ?_⟩
            by_cases e2 : t = k
            · subst e2; exact Or.inr ⟨rfl, Nat.le_refl _⟩
            · exact Or.inl (c t (by omega) tv tp)
          · rw [gI_ne (by omega)]
            rcases rk p hp2 with ⟨r1, r2⟩ | ⟨b, b1, b2, b3, b4, b5⟩
            · exact Or.inl ⟨r1, fun t ht tv tp => r2 t (by
                by_cases e2 : t = k
                · subst e2; omega
                · omega) tv tp⟩
            · exact Or.inr ⟨b, by omega, b2, b3, b4, fun t ht tv tp => b5 t (by
                by_cases e2 : t = k
                · subst e2; omega
                · omega) tv tp⟩
        have hin : vp_in (nI (stn (now h) - stn k)) 29 := in_I (by omega) (by omega)
        refine s_pulledAt (Sv25 hV G) hw hp ⟨hin, ?_⟩
        rw [nI_clamp (n := stn (now h) - stn k) (by omega)]
        rcases rk (stn (now h) - stn k) (by omega) with ⟨r1, r2⟩ | ⟨b, b1, b2, b3, b4, b5⟩
        · rw [r1]
          exact ⟨fun _ => ⟨hin, put θ (fun t ht tv tp => absurd (r2 t ht tv tp) id)⟩, fun y => absurd (by decide) y⟩
        · have hpb : prB h b = true := V_pr (ok := okT) hw b3
          have pk := pcoin_le hw k
          have pb := pcoin_le hw b
          rw [b2]
          refine ⟨fun y => absurd y (nI_pos (by omega)), fun _ => s_coinAt (Sv25 hV G) hp ⟨hin, s_coinAt (Sv25 hV G) hpb ⟨fun y => ?_, fun y => ⟨hin, put θ (fun t ht tv tp => ?_)⟩⟩⟩⟩
          · have := (nI_leI (by omega) (by omega)).mp y
            refine ih (k + 1) θ (by omega) (by omega) G (fun p hp2 => ?_)
            by_cases e : p = stn (now h) - stn k
            · subst e
              refine Or.inr ⟨b, by omega, b2, b3, b4, fun t ht tv tp => ?_⟩
              by_cases e2 : t = k
              · subst e2; omega
              · exact b5 t (by omega) tv tp
            · rcases rk p hp2 with ⟨r1, r2⟩ | ⟨b', c1, c2, c3, c4, c5⟩
              · exact Or.inl ⟨r1, fun t ht tv tp => r2 t (by
                  by_cases e2 : t = k
                  · subst e2; omega
                  · omega) tv tp⟩
              · exact Or.inr ⟨b', by omega, c2, c3, c4, fun t ht tv tp => c5 t (by
                  by_cases e2 : t = k
                  · subst e2; omega
                  · omega) tv tp⟩
          · have := mt (nI_leI (a := pcoin h k) (b := pcoin h b) (by omega) (by omega)).mpr y
            have := b5 t ht tv tp
            omega
  exact head (now h + 1) 0 τ (by omega) (by omega) F (fun p hp => Or.inl ⟨A p (by omega), fun t ht => by omega⟩)
theorem s_bestUpTo {σ : St} {h : MH} (hw : Wf h) (hV : Sv σ 19 h) (rk : RK σ h (now h + 1)) {n : Nat} (hn28 : n ≤ 28) {Q : Int32 → Prop} (hQ : ∀ r, Best h n r → Q (nI r)) : P_X1_bestUpTo 19 (nI n) σ Q := by
  have hn := now_lt hw
  unfold P_X1_bestUpTo
  rw [hV.1]
  refine ⟨n + 1, ?_⟩
  have head : ∀ m q r, m = n - q → q ≤ n → Best h q r → P_X1_bestUpTo_l8 19 (nI n) (fun k3 t51 => Q k3) Q (m + 1) (nI r) (nI (q + 1)) σ := by
    intro m
    induction m with
    | zero =>
      intro q r hm hq b
      have e : q = n := by omega
      subst e
      rw [P_X1_bestUpTo_l8]
      exact ⟨fun _ => hQ r b, fun z => absurd (nI_lt (by omega) (by omega)) z⟩
    | succ m ih =>
      intro q r hm hq b
      have hpr : prB h r = true := V_pr (ok := okT) hw b.1
      have pr := pcoin_le hw r
      rw [P_X1_bestUpTo_l8, nI_clamp (by omega), nI_1]
      refine ⟨fun z => absurd ((nI_ltI (by omega) (by omega)).mp z) (by omega), fun _ => ⟨in_I (by omega) (by omega), ?_⟩⟩
      have slr := stn_lt hw hpr
      rcases rk (q + 1) (by omega) with ⟨r1, r2⟩ | ⟨c, c1, c2, c3, c4, c5⟩
      · rw [r1]
        refine ⟨fun _ => ih (q + 1) r (by omega) (by omega) ⟨b.1, by have := b.2.1; omega, fun t tv tp => b.2.2 t tv ?_⟩, fun z => absurd (by decide) z⟩
        have x : ¬ stn (now h) - stn t = q + 1 := r2 t (by have := prB_le (V_pr (ok := okT) hw tv); omega) tv
        omega
      · have hpc : prB h c = true := V_pr (ok := okT) hw c3
        have pc := pcoin_le hw c
        have slc := stn_lt hw hpc
        rw [c2]
        refine ⟨fun z => absurd z (nI_pos (by omega)), fun _ => s_coinAt hV hpc (s_coinAt hV hpr ⟨fun y => ?_, fun y => ?_⟩)⟩
        · have le := (nI_leI (by omega) (by omega)).mp y
          refine ih (q + 1) r (by omega) (by omega) ⟨b.1, by have := b.2.1; omega, fun t tv tp => ?_⟩
          by_cases e : stn (now h) - stn t = q + 1
          · have x := c5 t (by have := prB_le (V_pr (ok := okT) hw tv); omega) tv e
            have := b.2.1
            have := stn_lt hw (V_pr (ok := okT) hw tv)
            unfold bet; omega
          · exact b.2.2 t tv (by omega)
        · have gt := mt (nI_leI (a := pcoin h c) (b := pcoin h r) (by omega) (by omega)).mpr y
          refine ih (q + 1) c (by omega) (by omega) ⟨c3, by omega, fun t tv tp => ?_⟩
          have slt := stn_lt hw (V_pr (ok := okT) hw tv)
          by_cases e : stn (now h) - stn t = q + 1
          · have x := c5 t (by have := prB_le (V_pr (ok := okT) hw tv); omega) tv e
            unfold bet; omega
          · have x := b.2.2 t tv (by omega)
            unfold bet at x ⊢; omega
  have b0 : Best h 0 (now h) := ⟨by rw [V_now]; omega, by omega, fun t tv tp => by
    have e := stn_eq hw (V_pr (ok := okT) hw tv) (by omega)
    rw [e]; unfold bet; omega⟩
  exact head n 0 (now h) (by omega) (by omega) b0
theorem m_richestNow {σ : St} {h : MH} (M : Ms σ 50 h) (O : Mo σ h) (A : Ro σ h) (hw : Wf h) {n : Nat} (hn28 : n ≤ 28) {Q : Int32 → Prop} (hQ : ∀ r, Best h n r → Q (nI r)) : P_X7_richestNow (nI n) σ Q := by
  have hn := now_lt hw
  unfold P_X7_richestNow
  refine m_standNow M hw ⟨now h + 2, ?_⟩
  have head : ∀ k r, k ≤ now h + 1 → 0 < V h okT r → stn (now h) - stn r ≤ n → (∀ t, k ≤ t → 0 < V h okT t → stn (now h) - stn t ≤ n → bet h r t) → P_X7_richestNow_l10 (nI n) (nI (now h)) (fun k3 t90 => Q k3) Q (k + 1) (nI r) (nI k - 1) σ := by
    intro k
    induction k with
    | zero =>
      intro r hk rv rp b
      rw [P_X7_richestNow_l10]
      exact ⟨fun _ => hQ r ⟨rv, rp, fun t => b t (Nat.zero_le _)⟩, fun z => absurd (by decide) z⟩
    | succ k ih =>
      intro r hk rv rp b
      have hpr : prB h r = true := V_pr (ok := okT) hw rv
      have pr := pcoin_le hw r
      have slr := stn_lt hw hpr
      have s28 := stn_le (now h)
      have r40 := (prB_iff.mp hpr).1
      rw [P_X7_richestNow_l10, nI_pred, nI_clamp (by omega), A k (by omega), lgc_pos (V_lt hw k), show nI k + (-1) = nI k - 1 from (Int32.sub_eq_add_neg _ _).symm]
      refine ⟨fun z => absurd z (nI_pos (by omega)), fun _ => ⟨in_I (by omega) (by omega), fun z => ?_, fun z => m_stones hn (m_stones (by omega) ?_)⟩⟩
      · exact ih r (by omega) rv rp (fun t ht tv tp => b t (by
          by_cases e : t = k
          · subst e; omega
          · omega) tv tp)
      · have hpk : prB h k = true := V_pr (ok := okT) hw (by omega)
        have slk := stn_lt hw hpk
        have pk := pcoin_le hw k
        have keep : (stn (now h) - stn k ≤ n → bet h r k) → P_X7_richestNow_l10 (nI n) (nI (now h)) (fun k3 t90 => Q k3) Q (k + 1) (nI r) (nI k - 1) σ := fun c => ih r (by omega) rv rp (fun t ht tv tp => by
          by_cases e : t = k
          · subst e; exact c tp
          · exact b t (by omega) tv tp)
        have take : stn (now h) - stn k ≤ n → (pcoin h r < pcoin h k ∨ (pcoin h r = pcoin h k ∧ stn r ≤ stn k)) → P_X7_richestNow_l10 (nI n) (nI (now h)) (fun k3 t90 => Q k3) Q (k + 1) (nI k) (nI k - 1) σ := fun c1 c2 => ih k (by omega) (by omega) c1 (fun t ht tv tp => by
          by_cases e : t = k
          · subst e; unfold bet; omega
          · have x := b t (by omega) tv tp
            unfold bet at x ⊢; omega)
        rw [pk_sub slk]
        refine ⟨fun y => keep (fun c => ?_), fun y => m_paidIn O hpk (m_paidIn O hpr ?_)⟩
        · have := (nI_ltI (by omega) (by omega)).mp y; omega
        · have y2 := mt (nI_ltI (a := n) (b := stn (now h) - stn k) (by omega) (by omega)).mpr y
          have ti := pk_sub_toInt (a := pcoin h k) (b := pcoin h r) (by omega) (by omega)
          have g0 : (0 : Int32) < nI (pcoin h k) - nI (pcoin h r) ↔ pcoin h r < pcoin h k := by
            rw [Int32.lt_iff_toInt_lt, ti]
            show (0 : Int) < _ ↔ _
            omega
          have g1 : nI (pcoin h k) - nI (pcoin h r) = 0 ↔ pcoin h k = pcoin h r := by
            rw [← Int32.toInt_inj, ti]
            show _ = (0 : Int) ↔ _
            omega
          rw [g0, g1]
          have sk8 := stn_le k
          have sr8 := stn_le r
          refine ⟨fun q => take (by omega) (Or.inl q), fun q => ⟨fun q2 => keep (fun _ => by unfold bet; omega), fun q2 => m_stones (by omega) (m_stones r40 ⟨fun x => ?_, fun x => ?_⟩)⟩⟩
          · have := (nI_ltI (by omega) (by omega)).mp x
            exact keep (fun _ => by unfold bet; omega)
          · have := mt (nI_ltI (a := stn k) (b := stn r) (by omega) (by omega)).mpr x
            exact take (by omega) (Or.inr ⟨by omega, by omega⟩)
  have := head (now h + 1) (now h) (by omega) (by rw [V_now]; omega) (by omega) (fun t ht tv tp => by have := prB_le (V_pr (ok := okT) hw tv); omega)
  rw [nI_pred] at this
  exact this
abbrev inWB : Nat → Prop := fun k => (19 ≤ k ∧ k ≤ 22) ∨ k = 24 ∨ k = 25
theorem inWB_sc (k : Nat) (z : inWB k) : sc k := by omega
theorem s_bestStand {σ : St} {h : MH} (H : Hs σ 1 h) (hw : Wf h) {n : Nat} (hn28 : n ≤ 28) {Q : Int32 → St → Prop} (hQ : ∀ τ r, Fr inWB σ τ → Sv τ 19 h → Best h n r → Q (nI r) τ) : P_X6_bestStand (nI n) σ Q := by
  unfold P_X6_bestStand
  refine s_standsOf H hw (by omega) (fun τ F hV W => s_rank hw hV W (fun ρ G rk => s_bestUpTo hw (Sv25 hV G) rk hn28 (fun r b => hQ ρ r ?_ (Sv25 hV G) b)))
  exact (F.mono (fun k z => by omega)).tr (G.mono (fun k z => by omega))
theorem pp_where {σ : St} (I : Inv σ) (p0 : Int32) : Same (P_X6_where p0 σ) (P_X7_where p0) := by
  have I0 := I
  obtain ⟨h, R, D⟩ := I
  obtain ⟨hw, hn, H, M, K⟩ := id R
  unfold Same P_X6_where
  rcases rn p0 0 28 with ⟨n, _, n28, rfl⟩ | nn
  · refine wi_y (a := 0) (b := 28) (by omega) n28 (by omega) (bT' (s_bestStand H hw n28 (fun τ r F hV b => ?_)))
    have M1 := M.fr (F.mono inWB_sc) (by decide)
    unfold P_X7_where
    refine in_y (a := 0) (b := 28) (by omega) n28 (by omega) (bT ?_)
    unfold P_X7_richest
    refine m_findRows M1 hw (fun ρ G O Gg A => m_richestNow (M1.fr G (by decide)) O A hw n28 (fun q c => ⟨?_, (I0.fr (F.mono inWB_sc)).fr (G.mono inF_sc)⟩))
    rw [Best_u b c]
  · refine wi_n (a := 0) (b := 28) (by omega) (by omega) nn (bF' (bad0 R D (P2 := P_X7_where p0) (fun τ Rτ X b => ?_)))
    unfold P_X7_where
    exact in_n (a := 0) (b := 28) (by omega) (by omega) nn (bF (b _ Rτ Fr.rf))
theorem pp_most {σ : St} (I : Inv σ) (p0 : Int32) : Same (P_X6_most p0 σ) (P_X7_most p0) := by
  have I0 := I
  obtain ⟨h, R, D⟩ := I
  obtain ⟨hw, hn, H, M, K⟩ := id R
  unfold Same P_X6_most
  rcases rn p0 0 28 with ⟨n, _, n28, rfl⟩ | nn
  · refine wi_y (a := 0) (b := 28) (by omega) n28 (by omega) (bT' (s_bestStand H hw n28 (fun τ r F hV b => s_coinAt hV (V_pr (ok := okT) hw b.1) ?_)))
    have M1 := M.fr (F.mono inWB_sc) (by decide)
    unfold P_X7_most
    refine in_y (a := 0) (b := 28) (by omega) n28 (by omega) (bT ?_)
    unfold P_X7_richest
    refine m_findRows M1 hw (fun ρ G O Gg A => m_richestNow (M1.fr G (by decide)) O A hw n28 (fun q c => m_paidIn O (V_pr (ok := okT) hw c.1) ⟨?_, (I0.fr (F.mono inWB_sc)).fr (G.mono inF_sc)⟩))
    rw [Best_u b c]
  · refine wi_n (a := 0) (b := 28) (by omega) (by omega) nn (bF' (bad0 R D (P2 := P_X7_most p0) (fun τ Rτ X b => ?_)))
    unfold P_X7_most
    exact in_n (a := 0) (b := 28) (by omega) (by omega) nn (bF (b _ Rτ Fr.rf))
