/-! THE PAIR OF HOUSE -/
abbrev inHo : Nat → Prop := fun k => (1 ≤ k ∧ k ≤ 6) ∨ k = 27 ∨ (29 ≤ k ∧ k ≤ 38) ∨ k = 49 ∨ k = 50 ∨ k = 52 ∨ k = 53 ∨ k = 64
theorem ho_inv {σ π : St} {h h2 : MH} (R : Re σ h) (D : Fdd σ) (F : Fr inHo σ π) (hw2 : Wf h2) (hn2 : hN h2 ≤ 999) (H2 : Hs π 1 h2) (M2 : Ms π 50 h2) (e22 : gI π 49 22 = gI σ 49 22) (e27 : gI π 27 1 = nI 0) (e9 : gI π 49 9 = nI 0) : Inv π := by
  obtain ⟨hw, hn, H, M, K⟩ := R
  obtain ⟨b, b1, e0, e1, kk⟩ := K.1
  refine ⟨h2, ⟨hw2, hn2, H2, M2, ⟨b, b1, by rw [F.i (by decide)]; exact e0, e22.trans e1, fun z => ?_⟩, ⟨0, fun _ => 0, by omega, e27, e9, fun j hj => by omega⟩, K.2.2.ex F (fun k z y => by omega)⟩, D.fr F (by decide) (by decide)⟩
  obtain ⟨k, k1, k2, k3, k4⟩ := kk z
  exact ⟨k, k1, k2, k3.fr F (fun j hj z => by omega), k4.fr F (by decide)⟩
abbrev inHm : Nat → Prop := fun k => k = 49 ∨ k = 50 ∨ k = 52 ∨ k = 53 ∨ k = 64
theorem m_house {ω : St} {n : Nat} {bs : Nat → Nat} {c : Int32} (B : Bb n bs) {h : MH} (M : Ms ω 50 h) (hw : Wf h) (hn : hN h ≤ 999) (Y : Yr ω n bs) (e9 : gI ω 49 9 = nI n) (e22 : gI ω 49 22 = c) {X : Int32 → St → Prop} {r : Bool × Nat × MH × Nat} (er : pHo n bs 121 1 h (sk n bs isBl 0) = r)
    (no : r.1 = false → ∀ π, Fr inHm ω π → gI π 49 9 = nI 0 → gI π 49 22 = c → Ms π 50 h → X (-1 - nI r.2.2.2) π) (yes : r.1 = true → ∀ π, Fr inHm ω π → gI π 49 9 = nI 0 → gI π 49 22 = c → Ms π 50 r.2.2.1 → X (nI r.2.1) π) : P_X7_house ω X := by
  have h1 := B.1
  unfold P_X7_house
  refine m_keep (c := 64) (by decide) (by decide) (fun τ F e => ⟨122, ?_⟩)
  have F0 : Fr inHm ω (sI (sI τ 49 12 0) 49 15 1) := ((F.mono (fun k (z : k = 64) => by omega)).sI (by decide) _ _).sI (by decide) _ _
  have e64 : ∀ π, Fr inUs (sI (sI τ 49 12 0) 49 15 1) π → ∀ j, j < 96 → gI π 64 j = gI ω 50 j := fun π G j hj => by
    rw [G.i (by decide), gI_ne (by omega), gI_ne (by omega)]; exact e j hj
  have bad : ∀ θ, Fr inUs (sI (sI τ 49 12 0) 49 15 1) θ → r.1 = false → gI θ 49 22 = c → gI θ 49 11 = nI r.2.2.2 → ∀ (k1 : Int32) s96, s96 = sI (sI θ 49 15 0) 49 9 0 → ((¬ (gI s96 49 15) = 0) → X k1 s96) ∧ (((gI s96 49 15) = 0) → P_X7_moveAll false 64 s96 (fun t112 => X (((-1)) - (gI t112 49 11)) t112)) := by
    intro θ G c0 g22 g11 k1 s96 es
    have F1 : Fr inUs (sI (sI τ 49 12 0) 49 15 1) s96 := by rw [es]; exact (G.sI (by decide) _ _).sI (by decide) _ _
    refine ⟨fun z => absurd (by rw [es, gI_ne (by omega), gI_eq]) z, fun _ => m_back (c := 64) (by decide) (by decide) (fun π G2 e2 => ?_)⟩
    rw [G2.i (k := 49) (by decide), show gI s96 49 11 = nI r.2.2.2 by rw [es, gI_ne (by omega), gI_ne (by omega)]; exact g11]
    refine no c0 π ((F0.tr (F1.mono (fun k z => by omega))).tr (G2.mono (fun k (z : k = 50) => by omega))) ?_ ?_ (Ms_cp M hw (fun j hj => by rw [e2 j hj, e64 s96 F1 j hj]))
    · rw [G2.i (k := 49) (by decide), es, gI_eq]; rfl
    · rw [G2.i (k := 49) (by decide), es, gI_ne (by omega), gI_ne (by omega)]; exact g22
  refine m_house23 (σ := sI (sI τ 49 12 0) 49 15 1) (c := c) (r := r) B (fun θ G c0 g22 g11 q k => ?_) (fun θ G c1 g22 g15 g10 Mz => ?_) 121 0 h 0 _ (by omega) (Nat.zero_le _) Fr.rf ?_ ?_ ?_ ?_ ?_ ?_ hw hn er
  · refine ⟨fun z => bad θ G c0 g22 g11 k, fun z => ⟨fun y => bad θ G c0 g22 g11 k, fun y => ?_⟩⟩
    rcases q with q | q
    · exact absurd q z
    · exact absurd y q
  · rw [g15, g10]
    refine ⟨fun z => absurd z (by decide), fun _ => ⟨fun z => absurd rfl z, fun _ s96 es => ⟨fun _ => ?_, fun z => ?_⟩⟩⟩
    · have F1 : Fr inUs (sI (sI τ 49 12 0) 49 15 1) s96 := by rw [es]; exact (G.sI (by decide) _ _).sI (by decide) _ _
      refine yes c1 s96 (F0.tr (F1.mono (fun k z => by omega))) (by rw [es, gI_eq]; rfl) (by rw [es, gI_ne (by omega), gI_ne (by omega)]; exact g22) ?_
      rw [es]
      exact Mz.fr (((Fr.rf (S := isC 49)).sI rfl _ _).sI rfl _ _) (by decide)
    · rw [es, gI_ne (by omega), gI_eq] at z
      exact absurd z (by decide)
  · intro j hj
    rw [gI_ne (by omega), gI_ne (by omega), F.i (by decide)]; exact Y j hj
  · rw [gI_ne (by omega), gI_ne (by omega), F.i (by decide)]; exact e9
  · rw [gI_ne (by omega), gI_ne (by omega), F.i (by decide)]; exact e22
  · exact gI_eq _ _ _ _
  · rw [gI_ne (by omega), gI_eq]; rfl
  · exact (M.fr F (by decide)).fr (((Fr.rf (S := isC 49)).sI rfl _ _).sI rfl _ _) (by decide)
theorem neg1 : ∀ p, p ≤ 120 → (-1 : Int32) - nI p < 0 := by decide +kernel
theorem pp_house {σ : St} (I : Inv σ) : Same (P_X6_house σ) P_X7_house := by
  obtain ⟨h, R, D⟩ := I
  obtain ⟨hw, hn, H, M, K⟩ := id R
  obtain ⟨n, bs, n1, n2, n3, n4⟩ := K.2.1
  have B : Bb n bs := ⟨n1, fun j hj => (n4 j hj).1⟩
  unfold Same P_X6_house P_X5_tell P_X4_rewind
  refine s_becomeLike H hw (Or.inr (by omega)) (fun τ F Hτ => ?_)
  have F1 : Fr inTl σ (sI τ 27 5 0) := (F.mono h29_Tl).sI (by decide) _ _
  have H1 : Hs (sI τ 27 5 0) 29 h := Hτ.fr ((Fr.rf (S := isC 27)).sI rfl _ _) (fun j hj (z : 29 + j = 27) => by omega)
  have Y1 : By (sI τ 27 5 0) n bs := fun j hj => by rw [gI_ne (by omega), F.i (fun z => by have := z.1; omega)]; exact (n4 j hj).2.1
  refine s_step B Y1 (by rw [gI_ne (by omega), F.i (fun z => by have := z.1; omega)]; exact n2) (Nat.zero_le n) (gI_eq _ _ _ _) (fun ρ F2 T2 => ⟨122, ?_⟩)
  have hp := sk_le (n := n) (bs := bs) (c := isBl) (Nat.zero_le n)
  have F3 : Fr inTl σ ρ := F1.tr (F2.mono c27_Tl)
  have Ts2 : Ts ρ n bs h (sk n bs isBl 0) := ⟨Y1.fr F2 (by decide), T2, H1.fr F2 (fun j hj (z : 29 + j = 27) => by omega)⟩
  obtain ⟨r, er⟩ : ∃ r, pHo n bs 121 1 h (sk n bs isBl 0) = r := ⟨_, rfl⟩
  have hold : ∀ (ω : St), Fr (fun k => (1 ≤ k ∧ k ≤ 6) ∨ inTl k) σ ω → Ms ω 50 h ∧ Yr ω n bs ∧ gI ω 49 9 = nI n ∧ gI ω 49 22 = gI σ 49 22 := fun ω G =>
    ⟨M.fr G (by decide), fun j hj => by rw [G.i (by decide)]; exact (n4 j hj).2.2, by rw [G.i (by decide)]; exact n3, by rw [G.i (by decide)]⟩
  refine s_tell17 (σ := σ) (r := r) B (fun θ G c0 pn g3 => ?_) (fun θ G c1 Hz hwz hnz k1 => ?_) 121 1 h (sk n bs isBl 0) ρ (by omega) (by omega) hp F3 Ts2 hw hn er
  · rw [g3]
    refine ⟨fun _ => ?_, fun z => absurd (neg1 _ (by omega)) z⟩
    have G1 : Fr inTl σ (sI θ 27 1 0) := G.sI (by decide) _ _
    obtain ⟨a, b, d, e⟩ := hold _ (G1.mono (fun k z => Or.inr z))
    refine m_house B a hw hn b d e er (fun _ π G2 x9 x22 Mπ => ⟨rfl, ?_⟩) (fun q => by rw [c0] at q; exact absurd q (by decide))
    refine ho_inv R D ((G1.mono (fun k z => by omega)).tr (G2.mono (fun k z => by omega))) hw hn ?_ Mπ x22 ?_ x9
    · exact (H.fr G1 (fun j hj z => by omega)).fr G2 (fun j hj z => by omega)
    · rw [G2.i (by decide), gI_eq]; rfl
  · refine ⟨fun z => absurd z (nI_pos (by omega)), fun _ => s_becomeLike Hz hwz (Or.inl (by omega)) (fun ξ G3 Hξ => ?_)⟩
    have G1 : Fr (fun k => (1 ≤ k ∧ k ≤ 6) ∨ inTl k) σ (sI ξ 27 1 0) := ((G.mono (fun k z => Or.inr z)).tr (G3.mono (fun k z => by have := z.1; have := z.2; omega))).sI (by decide) _ _
    obtain ⟨a, b, d, e⟩ := hold _ G1
    refine m_house B a hw hn b d e er (fun q => by rw [c1] at q; exact absurd q (by decide)) (fun _ π G2 x9 x22 Mπ => ⟨rfl, ?_⟩)
    refine ho_inv R D ((G1.mono (fun k z => by omega)).tr (G2.mono (fun k z => by omega))) hwz hnz ?_ Mπ x22 ?_ x9
    · exact (Hξ.fr ((Fr.rf (S := isC 27)).sI rfl _ _) (fun j hj (z : 1 + j = 27) => by omega)).fr G2 (fun j hj z => by omega)
    · rw [G2.i (by decide), gI_eq]; rfl
