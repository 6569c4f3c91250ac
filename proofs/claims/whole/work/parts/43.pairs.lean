/-! PAIRS OF CALLS -/
theorem badc {σ : St} {h : MH} (R : Re σ h) (D : Fdd σ) {c : Int32} {i : Nat} (hi : i < 7) (hc : (-1000000001 : Int32) - c = nI i) {P2 : St → (Int32 → St → Prop) → Prop} (b : ∀ τ, Re τ h → ∀ X, (∀ π, Re π h → Fr sc τ π → P_X7_finds c π X) → P2 τ X) : P_X6_finding c σ (fun r τ => P2 τ (fun r' τ' => r = r' ∧ Inv τ')) :=
  ff hi hc R D (fun τ _ Rτ E => b τ Rτ _ (fun _ Rπ F => fm hi hc Rπ (E.fr F (by decide) (by decide)) (fun _ J => ⟨rfl, J⟩)))
theorem bad0 {σ : St} {h : MH} (R : Re σ h) (D : Fdd σ) {P2 : St → (Int32 → St → Prop) → Prop} (b : ∀ τ, Re τ h → ∀ X, (∀ π, Re π h → Fr sc τ π → P_X7_finds (-1000000001) π X) → P2 τ X) : P_X6_finding (-1000000001) σ (fun r τ => P2 τ (fun r' τ' => r = r' ∧ Inv τ')) :=
  badc R D (i := 0) (by omega) (by decide) b
theorem e23 {w j : Nat} : ((23 : Int32) * nI w) + nI j = nI (23 * w + j) := by rw [show (23 : Int32) = nI 23 from rfl, pk_mul, nI_add]
theorem e8 {w : Nat} : ((8 : Int32) * nI w) = nI (8 * w) := pk_mul 8 w
theorem ne_lit {p : Int32} {a b : Nat} (no : ∀ j, a ≤ j → j ≤ b → p ≠ nI j) {c : Nat} (h1 : a ≤ c) (h2 : c ≤ b) : ¬ p = nI c := no c h1 h2
theorem inT_sc (k : Nat) (z : inT k) : sc k := by omega
theorem inS_sc (k : Nat) (z : inS 19 k) : sc k := by have := z.1; have := z.2; omega
theorem pp_wallOf {σ : St} (I : Inv σ) (p0 p1 : Int32) : Same (P_X6_wallOf p0 p1 σ) (P_X7_wallOf p0 p1) := by
  have I0 := I
  obtain ⟨h, R, D⟩ := I
  obtain ⟨hw, hn, H, M, K⟩ := id R
  unfold Same P_X6_wallOf
  rcases rn p0 0 3 with ⟨w, _, w3, rfl⟩ | nw
  · have h4 : w < 4 := by omega
    have c7 := (hw.1 w h4).1
    have hin : vp_in (nI w) 4 := in_I h4 (by omega)
    refine wa_y w3 (bT' ⟨fun e => ⟨hin, ?_⟩, fun e => ⟨hin, ?_⟩, fun e => s_topOf H hw h4 ?_, fun e => s_coinsOf H hw h4 ?_, fun ne => bad0 R D (P2 := P_X7_wallOf (nI w) p1) (fun τ Rτ X b => ?_)⟩)
    · subst e
      rw [nI_clamp (by omega), (H.1 w h4).1]
      unfold P_X7_wallOf
      refine wam_y w3 (bT (in_y (a := 0) (b := 3) (j := 0) (by omega) (by omega) (by omega) (bT' (m_findTops M hw (fun τ F O => ⟨fun z => absurd z (by decide), fun _ => ?_⟩)))))
      rw [show ((23 : Int32) * nI w) + 0 = nI (23 * w + 0) from e23 (j := 0), nI_clamp (by omega), Nat.add_zero, ((M.fr F (by decide)).1 w h4).1]
      exact ⟨in_I (by omega) (by omega), rfl, I0.fr (F.mono inT_sc)⟩
    · subst e
      rw [nI_clamp (by omega), (H.1 w h4).2.1]
      unfold P_X7_wallOf
      refine wam_y w3 (bT (in_y (a := 0) (b := 3) (j := 1) (by omega) (by omega) (by omega) (bT' (m_findTops M hw (fun τ F O => ⟨fun z => absurd z (by decide), fun _ => ?_⟩)))))
      rw [show ((23 : Int32) * nI w) + 1 = nI (23 * w + 1) from e23 (j := 1), nI_clamp (by omega), ((M.fr F (by decide)).1 w h4).2.1]
      exact ⟨in_I (by omega) (by omega), rfl, I0.fr (F.mono inT_sc)⟩
    · subst e
      unfold P_X7_wallOf
      refine wam_y w3 (bT (in_y (a := 0) (b := 3) (j := 2) (by omega) (by omega) (by omega) (bT' (m_findTops M hw (fun τ F O => ⟨fun _ => ⟨fun z => absurd rfl z, fun _ => m_many (M.fr F (by decide)) h4 ?_⟩, fun z => absurd (by decide) z⟩)))))
      rw [e8, nI_add, nI_clamp (by omega), (O w h4 _ (Nat.le_refl _)).1]
      exact ⟨in_I (by omega) (by omega), rfl, I0.fr (F.mono inT_sc)⟩
    · subst e
      unfold P_X7_wallOf
      refine wam_y w3 (bT (in_y (a := 0) (b := 3) (j := 3) (by omega) (by omega) (by omega) (bT' (m_findTops M hw (fun τ F O => ⟨fun _ => ⟨fun _ => ?_, fun z => absurd z (by decide)⟩, fun z => absurd (by decide) z⟩)))))
      rw [e8, nI_clamp (by omega), show 8 * w = 8 * w + 0 from rfl, (O w h4 0 (Nat.zero_le _)).2, Nat.sub_zero]
      exact ⟨in_I (by omega) (by omega), rfl, I0.fr (F.mono inT_sc)⟩
    · unfold P_X7_wallOf
      refine wam_y w3 (bT (in_n (a := 0) (b := 3) (by omega) (by omega) (fun j _ h3 e => ?_) (bF' (b _ Rτ Fr.rf))))
      subst e
      rcases (show j = 0 ∨ j = 1 ∨ j = 2 ∨ j = 3 by omega) with rfl | rfl | rfl | rfl
      · exact ne.1 rfl
      · exact ne.2.1 rfl
      · exact ne.2.2.1 rfl
      · exact ne.2.2.2 rfl
  · refine wa_n nw (bF' (bad0 R D (P2 := P_X7_wallOf p0 p1) (fun τ Rτ X b => ?_)))
    unfold P_X7_wallOf
    exact wam_n nw (bF (b _ Rτ Fr.rf))
theorem pl_in {h : MH} (hw : Wf h) {w i : Nat} (h4 : w < 4) (hi : i < hC h w) : vp_in (nI (w * 7 + i)) 28 := in_I (pl28 hw h4 hi) (by omega)
theorem asN {b : Bool} {σ : St} {Q : Int32 → Prop} (q : Q (bI b)) : P_X6_asNumber b σ Q := by
  unfold P_X6_asNumber
  cases b
  · exact ⟨fun _ => q, fun z => absurd z (by decide)⟩
  · exact ⟨fun z => absurd z (by decide), fun _ => q⟩
theorem pp_of {σ : St} (I : Inv σ) (p0 p1 p2 : Int32) : Same (P_X6_of p0 p1 p2 σ) (P_X7_of p0 p1 p2) := by
  have I0 := I
  obtain ⟨h, R, D⟩ := I
  obtain ⟨hw, hn, H, M, K⟩ := id R
  unfold Same P_X6_of
  rcases stc h p0 p1 with ⟨w, i, h4, hi, rfl, rfl⟩ | no
  · have c7 := (hw.1 w h4).1
    have hp := pl_in hw h4 hi
    have hpl := pl28 hw h4 hi
    obtain ⟨f1, f2, f3⟩ := (H.1 w h4).2.2 i hi
    have its : ∀ j, j < 3 → ∀ τ X, Ms τ 50 h → X (nI (if j = 0 then hK h w i else if j = 1 then hH h w i else hP h w i)) τ → P_X7_of (nI w) (nI i) (nI j) τ X := by
      intro j hj τ X Mτ q
      unfold P_X7_of
      refine stm_y Mτ hw h4 hi (bT (in_y (a := 0) (b := 5) (by omega) (by omega) (by omega) (bT' ⟨fun z => absurd ((nI_leI (a := 3) (by omega) (by omega)).mp z) (by omega), fun _ => m_its Mτ hw h4 hi hj q⟩)))
    refine st_y H hw h4 hi (bT' (s_place ?_))
    rw [nI_clamp (by omega)]
    refine ⟨fun e => ⟨hp, ?_⟩, fun e => ⟨hp, ?_⟩, fun e => ⟨hp, ?_⟩, fun e => s_tallOf H hw h4 hi ?_, fun e => s_coinOf H hw h4 hi ?_, fun e => ⟨hp, ?_⟩, fun ne => bad0 R D (P2 := P_X7_of (nI w) (nI i) p2) (fun τ Rτ X b => ?_)⟩
    · subst e; exact its 0 (by omega) _ _ M ⟨f1, I0⟩
    · subst e; exact its 1 (by omega) _ _ M ⟨f2, I0⟩
    · subst e; exact its 2 (by omega) _ _ M ⟨f3, I0⟩
    · subst e
      unfold P_X7_of
      exact stm_y M hw h4 hi (bT (in_y (a := 0) (b := 5) (j := 3) (by omega) (by omega) (by omega) (bT' ⟨fun _ => ⟨fun z => absurd rfl z, fun _ => m_tall M hw h4 hi ⟨rfl, I0⟩⟩, fun z => absurd (by decide) z⟩)))
    · subst e
      unfold P_X7_of
      exact stm_y M hw h4 hi (bT (in_y (a := 0) (b := 5) (j := 4) (by omega) (by omega) (by omega) (bT' ⟨fun _ => ⟨fun _ => ⟨fun z => absurd rfl z, fun _ => m_coin M hw h4 hi ⟨rfl, I0⟩⟩, fun z => absurd z (by decide)⟩, fun z => absurd (by decide) z⟩)))
    · subst e
      rw [f1]
      unfold P_X6_mayGoAsLowest
      have k6 := ((hw.1 w h4).2.2 i hi).1
      refine s_becomeLike H hw (Or.inr (by omega)) (fun τ F Hτ => s_place (i := 0) ⟨in_I (by omega) (by omega), ?_⟩)
      rw [nI_clamp (by omega)]
      have H2 := Hs_kd (i := 0) Hτ hw h4 (by omega) (hK h w i)
      refine s_measure H2 (wf_kd hw k6) (by omega) (fun ρ Fρ Vρ => ?_)
      rw [Vρ.1]
      have hw2 : Wf (hkd h w 0 (hK h w i)) := wf_kd hw k6
      refine s_lowestMayGo Vρ hw2 (prB_now hw2) h4 (asN ?_)
      have F3 : Fr sc σ ρ := ((F.mono (fun k z => by have := z.1; have := z.2; omega)).sI (by decide) _ _).tr (Fρ.mono inS_sc)
      have Mρ : Ms ρ 50 h := M.fr F3 (by decide)
      have eg : gs (hkd h w 0 (hK h w i)) (now (hkd h w 0 (hK h w i))) w = mgK (hK h w i) w (now h) := by
        unfold gs
        rw [show now (hkd h w 0 (hK h w i)) = now h from rfl, lf_now hw h4, show hC (hkd h w 0 (hK h w i)) w = hC h w from rfl, Nat.sub_self, show hK (hkd h w 0 (hK h w i)) w 0 = (if w = w ∧ 0 = 0 then hK h w i else hK h w 0) from rfl, if_pos ⟨rfl, rfl⟩, decide_eq_true (show 0 < hC h w by omega), Bool.true_and]
      rw [eg]
      unfold P_X7_of
      refine stm_y Mρ hw h4 hi (bT (in_y (a := 0) (b := 5) (j := 5) (by omega) (by omega) (by omega) (bT' ⟨fun _ => ⟨fun _ => ⟨fun _ => m_standNow Mρ hw (m_mayGo Mρ hw h4 hi (now_lt hw) ?_), fun z => absurd z (by decide)⟩, fun z => absurd z (by decide)⟩, fun z => absurd (by decide) z⟩)))
      generalize mgK (hK h w i) w (now h) = b
      cases b
      · exact ⟨fun _ => ⟨rfl, I0.fr F3⟩, fun z => absurd z (by decide)⟩
      · exact ⟨fun z => absurd z (by decide), fun _ => ⟨rfl, I0.fr F3⟩⟩
    · unfold P_X7_of
      refine stm_y Rτ.2.2.2.1 hw h4 hi (bT (in_n (a := 0) (b := 5) (by omega) (by omega) (fun j _ h3 e => ?_) (bF' (b _ Rτ Fr.rf))))
      subst e
      rcases (show j = 0 ∨ j = 1 ∨ j = 2 ∨ j = 3 ∨ j = 4 ∨ j = 5 by omega) with rfl | rfl | rfl | rfl | rfl | rfl
      · exact ne.1 rfl
      · exact ne.2.1 rfl
      · exact ne.2.2.1 rfl
      · exact ne.2.2.2.1 rfl
      · exact ne.2.2.2.2.1 rfl
      · exact ne.2.2.2.2.2 rfl
  · refine st_n H hw no (bF' (bad0 R D (P2 := P_X7_of p0 p1 p2) (fun τ Rτ X b => ?_)))
    unfold P_X7_of
    exact stm_n Rτ.2.2.2.1 hw no (bF (b _ Rτ Fr.rf))
/-- the house is changed on both sides -/
theorem iv2 {σ τ π : St} {h h2 : MH} (R : Re σ h) (D : Fdd σ) (hw2 : Wf h2) (hn2 : hN h2 ≤ 999) (F : Fr (fun k => (1 ≤ k ∧ k ≤ 6) ∨ sc k) σ τ) (H2 : Hs τ 1 h2) (G : Fr (fun k => k = 50 ∨ sc k) τ π) (M2 : Ms π 50 h2) : Inv π :=
  ⟨h2, ⟨hw2, hn2, H2.fr G (fun j hj z => by omega), M2, (R.2.2.2.2.fr (F.mono (fun k z => by omega))).fr (G.mono (fun k z => by omega))⟩, (D.fr F (by decide) (by decide)).fr G (by decide) (by decide)⟩
abbrev inE : Nat → Prop := fun k => (1 ≤ k ∧ k ≤ 6) ∨ sc k
abbrev inM : Nat → Prop := fun k => k = 50 ∨ sc k
theorem pp_slack {σ : St} (I : Inv σ) (p0 : Int32) : Same (P_X6_slack p0 σ) (P_X7_slack p0) := by
  obtain ⟨h, R, D⟩ := I
  obtain ⟨hw, hn, H, M, K⟩ := id R
  unfold Same P_X6_slack
  rcases rn p0 0 99 with ⟨v, _, v3, rfl⟩ | nv
  · refine wi_y (a := 0) (b := 99) (by omega) v3 (by omega) (bT' ?_)
    unfold P_X7_slack
    refine in_y (a := 0) (b := 99) (by omega) v3 (by omega) (bT' ⟨?_, ?_⟩)
    · rw [gI_ne (by omega), M.2.2.1]; exact H.2.2.1
    · have F : Fr inE σ (sI σ 1 6 (nI v)) := Fr.rf.sI (by decide) _ _
      exact iv2 (h2 := hsl h v) R D (wf_sl hw (by omega)) hn F (Hs_sl H hw v) (Fr.rf.sI (by decide) _ _) (Ms_sl (M.fr F (by decide)) hw v)
  · refine wi_n (a := 0) (b := 99) (by omega) (by omega) nv (bF' (bad0 R D (P2 := P_X7_slack p0) (fun τ Rτ X b => ?_)))
    unfold P_X7_slack
    exact in_n (a := 0) (b := 99) (by omega) (by omega) nv (bF' (b _ Rτ Fr.rf))
theorem pp_wedge {σ : St} (I : Inv σ) (p0 p1 : Int32) : Same (P_X6_wedge p0 p1 σ) (P_X7_wedge p0 p1) := by
  obtain ⟨h, R, D⟩ := I
  obtain ⟨hw, hn, H, M, K⟩ := id R
  unfold Same P_X6_wedge
  rcases rn p0 0 3 with ⟨w, _, w3, rfl⟩ | nw
  · have h4 : w < 4 := by omega
    refine wa_y w3 (bT ?_)
    rcases rn p1 0 20 with ⟨v, _, v3, rfl⟩ | nv
    · refine wi_y (a := 0) (b := 20) (by omega) v3 (by omega) (bT' ⟨in_I h4 (by omega), in_I h4 (by omega), ?_⟩)
      unfold P_X7_wedge
      refine wam_y w3 (bT (in_y (a := 0) (b := 20) (by omega) v3 (by omega) (bT' ?_)))
      rw [show ((23 : Int32) * nI w) + 1 = nI (23 * w + 1) from e23 (j := 1), nI_clamp (n := 23 * w + 1) (by omega), nI_clamp (n := w) (by omega)]
      refine ⟨in_I (by omega) (by omega), in_I (by omega) (by omega), ?_, ?_⟩
      · rw [gI_ne (by omega), (M.1 w h4).2.1]; exact (H.1 w h4).2.1
      · have F : Fr inE σ (sI σ 6 w (nI v)) := Fr.rf.sI (by decide) _ _
        exact iv2 R D (wf_we hw v3) hn F (Hs_we H hw h4 v) (Fr.rf.sI (by decide) _ _) (Ms_we (M.fr F (by decide)) hw h4 v)
    · refine wi_n (a := 0) (b := 20) (by omega) (by omega) nv (bF' (bad0 R D (P2 := P_X7_wedge (nI w) p1) (fun τ Rτ X b => ?_)))
      unfold P_X7_wedge
      exact wam_y w3 (bT (in_n (a := 0) (b := 20) (by omega) (by omega) nv (bF' (b _ Rτ Fr.rf))))
  · refine wa_n nw (bF (bad0 R D (P2 := P_X7_wedge p0 p1) (fun τ Rτ X b => ?_)))
    unfold P_X7_wedge
    exact wam_n nw (bF (b _ Rτ Fr.rf))
theorem pp_turn {σ : St} (I : Inv σ) (p0 p1 p2 : Int32) : Same (P_X6_turn p0 p1 p2 σ) (P_X7_turn p0 p1 p2) := by
  obtain ⟨h, R, D⟩ := I
  obtain ⟨hw, hn, H, M, K⟩ := id R
  unfold Same P_X6_turn
  rcases stc h p0 p1 with ⟨w, i, h4, hi, rfl, rfl⟩ | no
  · have c7 := (hw.1 w h4).1
    have hp := pl_in hw h4 hi
    have hpl := pl28 hw h4 hi
    obtain ⟨f1, f2, f3⟩ := (H.1 w h4).2.2 i hi
    refine st_y H hw h4 hi (bT ?_)
    rcases rn p2 0 5 with ⟨k, _, k5, rfl⟩ | nk
    · refine ki_y k5 (bT' (s_place ⟨hp, hp, ?_⟩))
      rw [nI_clamp (by omega)]
      have F : Fr inE σ (sI σ 2 (w * 7 + i) (nI k)) := Fr.rf.sI (by decide) _ _
      have M2 := M.fr F (by decide)
      unfold P_X7_turn
      refine stm_y M2 hw h4 hi (bT (kim_y k5 (bT' (m_its (j := 0) M2 hw h4 hi (by omega) (m_at (j := 0) ⟨in_I (by omega) (by omega), f1, ?_⟩)))))
      rw [nI_clamp (by omega)]
      exact iv2 R D (wf_kd hw (by omega)) hn F (Hs_kd H hw h4 hi k) (Fr.rf.sI (by decide) _ _) (Ms_kd M2 hw h4 hi k)
    · refine ki_n nk (bF' (bad0 R D (P2 := P_X7_turn (nI w) (nI i) p2) (fun τ Rτ X b => ?_)))
      unfold P_X7_turn
      exact stm_y Rτ.2.2.2.1 hw h4 hi (bT (kim_n nk (bF' (b _ Rτ Fr.rf))))
  · refine st_n H hw no (bF (bad0 R D (P2 := P_X7_turn p0 p1 p2) (fun τ Rτ X b => ?_)))
    unfold P_X7_turn
    exact stm_n Rτ.2.2.2.1 hw no (bF (b _ Rτ Fr.rf))
