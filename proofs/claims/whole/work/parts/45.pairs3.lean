/-! PULLS, IMAGES, THE TAPE'S LENGTH, COUNTS -/
def cpB (h : MH) (w : Nat) : Bool := gs h (now h) w && sf h (now h - 8 ^ w)
def pw (h : MH) : Nat → Int32
  | 0 => 0
  | v + 1 => if cpB h v = true then pw h v ||| (1 <<< (nI v &&& 31)) else pw h v
theorem pp_pulls {σ : St} (I : Inv σ) : Same (P_X6_pulls σ) P_X7_pulls := by
  have I0 := I
  obtain ⟨h, R, D⟩ := I
  obtain ⟨hw, hn, H, M, K⟩ := id R
  unfold Same P_X6_pulls
  refine s_measure H hw (by omega) (fun τ F hV => ⟨5, ?_⟩)
  have F1 : Fr sc σ τ := F.mono inS_sc
  have I1 := I0.fr F1
  have M1 := M.fr F1 (by decide)
  have mod : ∀ (n v : Nat) (ρ : St), n = 4 - v → v ≤ 4 → Fr inT τ ρ → P_X7_pulls_l4 (fun k1 t33 => pw h 4 = k1 ∧ Inv t33) (fun r' τ' => pw h 4 = r' ∧ Inv τ') (n + 1) (pw h v) (nI v) ρ := by
    intro n
    induction n with
    | zero =>
      intro v ρ hn4 hv G
      have e : v = 4 := by omega
      subst e
      rw [P_X7_pulls_l4]
      exact ⟨fun _ => ⟨rfl, I1.fr (G.mono inT_sc)⟩, fun z => absurd (nI_le (a := 4) (b := 4) (by omega) (by omega)) z⟩
    | succ n ih =>
      intro v ρ hn4 hv G
      have h4 : v < 4 := by omega
      rw [P_X7_pulls_l4]
      refine ⟨fun z => absurd ((nI_leI (a := 4) (by omega) (by omega)).mp z) (by omega), fun _ => m_canPullNow (M1.fr G (by decide)) hw h4 (fun π G2 => ?_)⟩
      have key := ih (v + 1) π (by omega) (by omega) (G.tr G2)
      rw [nI_1, Int32.or_zero]
      rw [show pw h (v + 1) = if cpB h v = true then pw h v ||| (1 <<< (nI v &&& 31)) else pw h v from rfl] at key
      refine ⟨fun z => ?_, fun z => ?_⟩
      · rw [if_neg (by unfold cpB; rw [z]; decide)] at key; exact key
      · rw [if_pos (by unfold cpB; exact z)] at key; exact key
  have cls : ∀ (n v : Nat), n = 4 - v → v ≤ 4 → P_X6_pulls_l15 (fun k1 t50 => P_X7_pulls t50 (fun r' τ' => k1 = r' ∧ Inv τ')) (fun r τ => P_X7_pulls τ (fun r' τ' => r = r' ∧ Inv τ')) (n + 1) (pw h v) (nI v) τ := by
    intro n
    induction n with
    | zero =>
      intro v hn4 hv
      have e : v = 4 := by omega
      subst e
      rw [P_X6_pulls_l15]
      refine ⟨fun _ => ?_, fun z => absurd (nI_le (a := 4) (b := 4) (by omega) (by omega)) z⟩
      unfold P_X7_pulls
      exact ⟨5, mod 4 0 τ (by omega) (by omega) Fr.rf⟩
    | succ n ih =>
      intro v hn4 hv
      have h4 : v < 4 := by omega
      rw [P_X6_pulls_l15, hV.1]
      have key := ih (v + 1) (by omega) (by omega)
      rw [nI_1]
      rw [show pw h (v + 1) = if cpB h v = true then pw h v ||| (1 <<< (nI v &&& 31)) else pw h v from rfl] at key
      refine ⟨fun z => absurd ((nI_leI (a := 4) (by omega) (by omega)).mp z) (by omega), fun _ => s_canPullAt hV hw (prB_now hw) h4 ⟨fun z => ?_, fun z => ?_⟩⟩
      · rw [if_neg (by unfold cpB; rw [z]; decide)] at key; exact key
      · rw [if_pos (by unfold cpB; exact z)] at key; exact key
  exact cls 4 0 (by omega) (by omega)
theorem Tp.ex {σ τ : St} (H : Tp σ) (h1 : gI τ 27 1 = gI σ 27 1) (h2 : gI τ 49 9 = gI σ 49 9) (h3 : ∀ j, gI τ 28 j = gI σ 28 j) (h4 : ∀ j, gI τ 58 j = gI σ 58 j) : Tp τ := by
  obtain ⟨n, bs, a, b, c, d⟩ := H
  exact ⟨n, bs, a, h1.trans b, h2.trans c, fun j hj => ⟨(d j hj).1, (h3 j).trans (d j hj).2.1, (h4 j).trans (d j hj).2.2⟩⟩
theorem Sh.ex {σ τ : St} {S : Nat → Prop} (H : Sh σ) (F : Fr S σ τ) (hs : ∀ k, (41 ≤ k ∧ k ≤ 48) ∨ (59 ≤ k ∧ k ≤ 61) → ¬ S k) : Sh τ := by
  obtain ⟨B, Z, H⟩ := H
  refine ⟨B, Z, fun s h4 => ?_⟩
  rw [F.i (k := 41 + 2 * s) (hs _ (by omega)), F.i (k := 59) (hs _ (by omega)), F.i (k := 41 + 2 * s) (hs _ (by omega)), F.i (k := 60) (hs _ (by omega))]
  obtain ⟨a1, a2, a3, a4, a5, a6, a7⟩ := H s h4
  refine ⟨a1, a2, a3, a4, a5, a6, fun j hj => ?_⟩
  rw [F.l (k := 41 + 2 * s + 1) (hs _ (by omega)), F.l (k := 61) (hs _ (by omega))]
  exact a7 j hj
abbrev inK : Nat → Prop := fun k => k = 0 ∨ (7 ≤ k ∧ k ≤ 12) ∨ k = 49 ∨ k = 63
theorem pp_image {σ : St} (I : Inv σ) : Same (P_X6_image σ) P_X7_image := by
  obtain ⟨h, R, D⟩ := I
  obtain ⟨hw, hn, H, M, K⟩ := id R
  unfold Same P_X6_image
  refine s_becomeLike H hw (Or.inr (by omega)) (fun τ F Hτ => ?_)
  unfold P_X7_image
  have F1 : Fr inK σ (sI τ 0 8 1) := (F.mono (fun k z => by have := z.1; have := z.2; omega)).sI (by decide) _ _
  refine m_keep (c := 63) (by decide) (by decide) (fun ρ G e => ⟨rfl, h, ⟨hw, hn, ?_, ?_, ?_, ?_, ?_⟩, ?_⟩)
  · exact (H.fr F1 (fun j hj z => by omega)).fr ((G.mono (T := inK) (fun k z => by omega)).sI (by decide) _ _) (fun j hj z => by omega)
  · exact (M.fr F1 (by decide)).fr ((G.mono (T := inK) (fun k z => by omega)).sI (by decide) _ _) (by decide)
  · refine ⟨1, by omega, ?_, ?_, fun _ => ⟨h, hw, hn, ?_, ?_⟩⟩
    · rw [gI_ne (by omega), G.i (by decide), gI_eq]; rfl
    · rw [gI_eq]; rfl
    · have H7 : Hs (sI τ 0 8 1) 7 h := Hτ.fr ((Fr.rf (S := isC 0)).sI rfl _ _) (fun j hj (z : 7 + j = 0) => by omega)
      exact (H7.fr G (fun j hj (z : 7 + j = 63) => by omega)).fr ((Fr.rf (S := isC 49)).sI rfl _ _) (fun j hj (z : 7 + j = 49) => by omega)
    · exact (Ms_cp (M.fr F1 (by decide)) hw e).fr ((Fr.rf (S := isC 49)).sI rfl _ _) (by decide)
  · refine K.2.1.ex ?_ ?_ (fun j => ?_) (fun j => ?_)
    · rw [gI_ne (by omega), G.i (by decide)]; exact F1.i (by decide) _
    · rw [gI_ne (by omega), G.i (by decide), gI_ne (by omega)]; exact F.i (fun z => by have := z.2; omega) _
    · rw [gI_ne (by omega), G.i (by decide)]; exact F1.i (by decide) _
    · rw [gI_ne (by omega), G.i (by decide)]; exact F1.i (by decide) _
  · exact K.2.2.ex (F1.tr ((G.mono (T := inK) (fun k z => by omega)).sI (by decide) _ _)) (fun k z y => by omega)
  · exact D.fr (F1.tr ((G.mono (T := inK) (fun k z => by omega)).sI (by decide) _ _)) (by decide) (by decide)
theorem pp_undo {σ : St} (I : Inv σ) : Same (P_X6_undo σ) P_X7_undo := by
  obtain ⟨h, R, D⟩ := I
  obtain ⟨hw, hn, H, M, K⟩ := id R
  obtain ⟨b, b1, e0, e1, kk⟩ := K.1
  unfold Same P_X6_undo
  rw [e0]
  refine ⟨fun z => ?_, fun z => ?_⟩
  · have hb : b = 1 := by
      rcases (show b = 0 ∨ b = 1 by omega) with rfl | rfl
      · exact absurd rfl z
      · rfl
    obtain ⟨k, kw, kn, kH, kM⟩ := kk hb
    refine s_becomeLike kH kw (Or.inl (by omega)) (fun τ F Hτ => s_allStones Hτ kw ?_)
    have F1 : Fr inE σ τ := F.mono (fun k z => by have := z.1; have := z.2; omega)
    unfold P_X7_undo
    dsimp only
    rw [F1.i (k := 49) (by decide), e1]
    refine ⟨fun _ => m_back (c := 63) (by decide) (by decide) (fun ρ G e => ?_), fun y => absurd y z⟩
    have Mρ : Ms ρ 50 k := Ms_cp (kM.fr F1 (by decide)) kw e
    exact m_standNow Mρ kw (m_stones (now_lt kw) ⟨rfl, iv2 R D kw kn F1 Hτ (G.mono (fun k z => Or.inl z)) Mρ⟩)
  · refine ff (i := 3) (by omega) (by decide) R D (fun τ F Rτ E => ?_)
    unfold P_X7_undo
    dsimp only
    rw [F.i (k := 49) (by decide), e1]
    exact ⟨fun y => absurd z y, fun _ => fm (i := 3) (by omega) (by decide) Rτ E (fun _ J => ⟨rfl, J⟩)⟩
theorem pp_tear {σ : St} (I : Inv σ) : Same (P_X6_tear σ) P_X7_tear := by
  obtain ⟨h, R, D⟩ := I
  obtain ⟨hw, hn, H, M, K⟩ := id R
  obtain ⟨b, b1, e0, e1, kk⟩ := K.1
  unfold Same P_X6_tear
  have F1 : Fr inK σ (sI (sI σ 0 8 0) 49 22 0) := (Fr.rf.sI (by decide) _ _).sI (by decide) _ _
  have J : Inv (sI (sI σ 0 8 0) 49 22 0) := by
    refine ⟨h, ⟨hw, hn, H.fr F1 (fun j hj z => by omega), M.fr F1 (by decide), ⟨0, by omega, ?_, ?_, fun z => absurd z (by omega)⟩, ?_, K.2.2.ex F1 (fun k z y => by omega)⟩, D.fr F1 (by decide) (by decide)⟩
    · rw [gI_ne (by omega), gI_eq]; rfl
    · rw [gI_eq]; rfl
    · refine K.2.1.ex ?_ ?_ (fun j => ?_) (fun j => ?_)
      · exact F1.i (by decide) _
      · rw [gI_ne (by omega), gI_ne (by omega)]
      · exact F1.i (by decide) _
      · exact F1.i (by decide) _
  rw [e0]
  refine ⟨?_, asN ?_⟩
  · rcases (show b = 0 ∨ b = 1 by omega) with rfl | rfl
    · exact Or.inl rfl
    · exact Or.inr rfl
  · unfold P_X7_tear
    dsimp only
    rw [gI_ne (by omega), e1]
    rcases (show b = 0 ∨ b = 1 by omega) with rfl | rfl
    · exact ⟨fun _ => ⟨rfl, J⟩, fun z => absurd rfl z⟩
    · exact ⟨fun z => absurd z (by decide), fun _ => ⟨rfl, J⟩⟩
theorem pcoin0 {h : MH} : pcoin h 0 = allC h := by
  unfold pcoin allC
  rw [show lf 0 0 = 0 from rfl, show lf 0 1 = 0 from rfl, show lf 0 2 = 0 from rfl, show lf 0 3 = 0 from rfl, Nat.sub_zero, Nat.sub_zero, Nat.sub_zero, Nat.sub_zero]
theorem prB_0 {h : MH} : prB h 0 = true := prB_iff.mpr ⟨by omega, fun w h4 => by unfold lf; simp⟩
theorem pp_count {σ : St} (I : Inv σ) (p0 : Int32) : Same (P_X6_count p0 σ) (P_X7_count p0) := by
  have I0 := I
  obtain ⟨h, R, D⟩ := I
  obtain ⟨hw, hn, H, M, K⟩ := id R
  obtain ⟨n, bs, n1, n2, n3, n4⟩ := K.2.1
  unfold Same P_X6_count
  refine ⟨fun e => s_allStones H hw ?_, fun e => ?_, fun e => s_allTops H hw ?_, fun e => s_allCoins H hw ?_, fun ne => bad0 R D (P2 := P_X7_count p0) (fun τ Rτ X b => ?_)⟩
  · subst e; unfold P_X7_count; exact ⟨fun _ => m_standNow M hw (m_stones (now_lt hw) ⟨rfl, I0⟩), fun z => absurd z (by decide), fun z => absurd z (by decide), fun z => absurd z (by decide), fun z => absurd rfl z.1⟩
  · subst e; unfold P_X7_count; exact ⟨fun z => absurd z (by decide), fun _ => ⟨n2.trans n3.symm, I0⟩, fun z => absurd z (by decide), fun z => absurd z (by decide), fun z => absurd rfl z.2.1⟩
  · subst e; unfold P_X7_count; exact ⟨fun z => absurd z (by decide), fun z => absurd z (by decide), fun _ => m_allTops M hw (fun τ G => ⟨rfl, I0.fr (G.mono inT_sc)⟩), fun z => absurd z (by decide), fun z => absurd rfl z.2.2.1⟩
  · subst e; unfold P_X7_count; exact ⟨fun z => absurd z (by decide), fun z => absurd z (by decide), fun z => absurd z (by decide), fun _ => m_findTops M hw (fun τ G O => m_paidIn (s := 0) O prB_0 ⟨by rw [pcoin0], I0.fr (G.mono inT_sc)⟩), fun z => absurd rfl z.2.2.2⟩
  · unfold P_X7_count
    obtain ⟨a, b1, c, d⟩ := ne
    exact ⟨fun z => absurd z a, fun z => absurd z b1, fun z => absurd z c, fun z => absurd z d, fun _ => b _ Rτ Fr.rf⟩
/-- the tape is another one, the rest stays -/
abbrev inP : Nat → Prop := fun k => k = 27 ∨ k = 28 ∨ k = 49 ∨ k = 58
theorem tp_inv {σ τ : St} {h : MH} (R : Re σ h) (D : Fdd σ) (F : Fr inP σ τ) (e : gI τ 49 22 = gI σ 49 22) (T : Tp τ) : Inv τ := by
  obtain ⟨hw, hn, H, M, K⟩ := R
  obtain ⟨b, b1, e0, e1, kk⟩ := K.1
  refine ⟨h, ⟨hw, hn, H.fr F (fun j hj z => by omega), M.fr F (by decide), ⟨b, b1, by rw [F.i (by decide)]; exact e0, e.trans e1, fun z => ?_⟩, T, K.2.2.ex F (fun k z y => by omega)⟩, D.fr F (by decide) (by decide)⟩
  obtain ⟨k, k1, k2, k3, k4⟩ := kk z
  exact ⟨k, k1, k2, k3.fr F (fun j hj z => by omega), k4.fr F (by decide)⟩
theorem pp_wipe {σ : St} (I : Inv σ) : Same (P_X6_wipe σ) P_X7_wipe := by
  obtain ⟨h, R, D⟩ := I
  obtain ⟨hw, hn, H, M, K⟩ := id R
  obtain ⟨n, bs, n1, n2, n3, n4⟩ := K.2.1
  unfold Same P_X6_wipe P_X7_wipe
  refine ⟨?_, tp_inv R D ((Fr.rf.sI (by decide) _ _).sI (by decide) _ _) ?_ ⟨0, bs, by omega, ?_, ?_, fun j hj => by omega⟩⟩
  · rw [gI_ne (by omega), n2, n3]
  · rw [gI_ne (by omega), gI_ne (by omega)]
  · rw [gI_ne (by omega), gI_eq]; rfl
  · rw [gI_eq]; rfl
/-- the findings' sum -/
def fs (σ : St) (c : Nat) : Nat → Int32
  | 0 => 0
  | k + 1 => fs σ c k + gI σ c k
theorem fs_eq {σ : St} (D : Fdd σ) : ∀ k, k ≤ 7 → fs σ 40 k = fs σ 51 k := by
  intro k
  induction k with
  | zero => intro _; rfl
  | succ k ih => intro hk; simp only [fs]; rw [ih (by omega), D k (by omega)]
theorem s_fsum {σ : St} {K Q : Int32 → St → Prop} (kk : K (fs σ 40 7) σ) : ∀ n k, n = 7 - k → k ≤ 7 → P_X6_status_l32 K Q (n + 1) (fs σ 40 k) (nI k) σ := by
  intro n
  induction n with
  | zero =>
    intro k hn hk
    have e : k = 7 := by omega
    subst e
    rw [P_X6_status_l32]
    exact ⟨fun _ => kk, fun z => absurd (nI_le (a := 7) (b := 7) (by omega) (by omega)) z⟩
  | succ n ih =>
    intro k hn hk
    rw [P_X6_status_l32, nI_clamp (by omega), nI_1]
    exact ⟨fun z => absurd ((nI_leI (a := 7) (by omega) (by omega)).mp z) (by omega), fun _ => ⟨in_I (by omega) (by omega), ih (k + 1) (by omega) (by omega)⟩⟩
theorem m_fsum {σ : St} {p : Int32} {K Q : Int32 → St → Prop} (kk : K (fs σ 51 7) σ) : ∀ n k, n = 7 - k → k ≤ 7 → P_X7_status_l21 p K Q (n + 1) (fs σ 51 k) (nI k) σ := by
  intro n
  induction n with
  | zero =>
    intro k hn hk
    have e : k = 7 := by omega
    subst e
    rw [P_X7_status_l21]
    exact ⟨fun _ => kk, fun z => absurd (nI_le (a := 7) (b := 7) (by omega) (by omega)) z⟩
  | succ n ih =>
    intro k hn hk
    rw [P_X7_status_l21, nI_clamp (by omega), nI_1]
    exact ⟨fun z => absurd ((nI_leI (a := 7) (by omega) (by omega)).mp z) (by omega), fun _ => ⟨in_I (by omega) (by omega), ih (k + 1) (by omega) (by omega)⟩⟩
theorem pp_status {σ : St} (I : Inv σ) (p0 : Int32) : Same (P_X6_status p0 σ) (P_X7_status p0) := by
  have I0 := I
  obtain ⟨h, R, D⟩ := I
  unfold Same P_X6_status
  refine s_within ?_
  by_cases z : (-1 : Int32) ≤ p0 ∧ p0 ≤ 6
  · rw [decide_eq_true z]
    refine bT' ⟨fun neg => ⟨8, ?_⟩, fun pos => ?_⟩
    · refine s_fsum ?_ 7 0 (by omega) (by omega)
      unfold P_X7_status
      refine m_in ?_
      rw [decide_eq_true z]
      exact bT' ⟨8, m_fsum ⟨fun y => absurd y (Int32.not_le.mpr neg), fun _ => ⟨fs_eq D 7 (by omega), I0⟩⟩ 7 0 (by omega) (by omega)⟩
    · obtain ⟨j, j0, j6, rfl⟩ := rng (a := 0) (b := 6) (by omega) (by omega) ⟨Int32.not_lt.mp pos, z.2⟩
      have hin : vp_in (nI j) 7 := in_I (by omega) (by omega)
      refine ⟨hin, ?_⟩
      rw [nI_clamp (by omega)]
      unfold P_X7_status
      refine m_in ?_
      rw [decide_eq_true z]
      refine bT' ⟨8, m_fsum ?_ 7 0 (by omega) (by omega)⟩
      rw [nI_clamp (by omega)]
      exact ⟨fun _ => ⟨fun _ => ⟨hin, D j (by omega), I0⟩, fun y => absurd (Int32.not_lt.mp pos) y⟩, fun y => absurd (Int32.not_lt.mp pos) y⟩
  · rw [decide_eq_false z]
    refine bF' (bad0 R D (P2 := P_X7_status p0) (fun τ Rτ X b => ?_))
    unfold P_X7_status
    refine m_in ?_
    rw [decide_eq_false z]
    exact bF' (b _ Rτ Fr.rf)
