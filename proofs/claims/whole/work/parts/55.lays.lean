/-! LAYS -/
def ww (x : Int64) : Nat := if x = lN 0 then 0 else if x = lN 1 then 1 else if x = lN 2 then 2 else if x = lN 3 then 3 else 4
theorem ww_lN {w : Nat} (h4 : w < 4) : ww (lN w) = w := by
  rcases w4 h4 with rfl | rfl | rfl | rfl <;> decide
theorem ww_no {x : Int64} (no : ∀ w, w < 4 → x ≠ lN w) : ww x = 4 := by
  unfold ww
  rw [if_neg (no 0 (by omega)), if_neg (no 1 (by omega)), if_neg (no 2 (by omega)), if_neg (no 3 (by omega))]
theorem ww_neg {x : Int64} (z : x < 0) : ww x = 4 := ww_no (fun w h4 e => by
  subst e
  exact absurd ((pk_lLT (b := 0) (by omega) (by omega)).mp z) (by omega))
theorem ww_big {x : Int64} (z : ¬ x < 4) : ww x = 4 := ww_no (fun w h4 e => by
  subst e
  exact z ((pk_lLT (b := 4) (by omega) (by omega)).mpr h4))
theorem ww_in {x : Int64} (z : ¬ x < 0) (y : x < 4) : ∃ w, w < 4 ∧ x = lN w := by
  obtain ⟨k, hk, rfl⟩ := pk_lOf z
  exact ⟨k, (pk_lLT (b := 4) hk (by omega)).mp y, rfl⟩
/-- the pulls that a sheet tells, from its k-th number on -/
def layF (f : Nat → Int64) : Nat → Nat → MH → Nat × MH
  | 0, k, h => (k, h)
  | n + 1, k, h => if ww (f k) < 4 ∧ cpB h (ww (f k)) = true then layF f n (k + 1) (htake h (ww (f k))) else (k, h)
theorem cpB_c {h : MH} (hw : Wf h) {w : Nat} (h4 : w < 4) (c : cpB h w = true) : 0 < hC h w := by
  unfold cpB at c
  rw [Bool.and_eq_true] at c
  have := gs_lf c.1
  rwa [lf_now hw h4] at this
theorem s_lays26 {σ : St} {s Z : Nat} {f : Nat → Int64} (h4 : s < 4) (hZ : Z ≤ 40) (eZ : gI σ (41 + 2 * s) 2 = nI Z) (ef : ∀ j, gL σ (41 + 2 * s + 1) j = f j) {K : St → Prop} {Q : Int32 → St → Prop} {kz : Nat} {hz : MH}
    (kk : ∀ θ, Fr inE σ θ → Hs θ 1 hz → Wf hz → hN hz ≤ 999 → kz = Z → K θ) (qq : ∀ θ, Fr inE σ θ → Hs θ 1 hz → Wf hz → hN hz ≤ 999 → Q (nI kz) θ) :
    ∀ n k (h : MH) (θ : St), n = Z - k → k ≤ Z → Fr inE σ θ → Hs θ 1 h → Wf h → hN h ≤ 999 → layF f n k h = (kz, hz) → P_X6_lays_l26 (41 + 2 * s) K Q (n + 1) (nI k) θ := by
  intro n
  induction n with
  | zero =>
    intro k h θ hn hk F H hw hN9 e
    have ek : k = Z := by omega
    subst ek
    have e1 : k = kz := congrArg Prod.fst e
    have e2 : h = hz := congrArg Prod.snd e
    subst e1; subst e2
    rw [P_X6_lays_l26, F.i (fun z => by omega), eZ]
    exact ⟨fun _ => kk θ F H hw hN9 rfl, fun z => absurd (nI_le (Nat.le_refl k) (by omega)) z⟩
  | succ n ih =>
    intro k h θ hn hk F H hw hN9 e
    rw [P_X6_lays_l26, F.i (k := 41 + 2 * s) (fun z => by omega), eZ, nI_clamp (by omega), F.l (k := 41 + 2 * s + 1) (fun z => by omega), ef, lg_cmp_lt, lg_cmp_lt, nI_1]
    have stop : ¬ (ww (f k) < 4 ∧ cpB h (ww (f k)) = true) → k = kz ∧ h = hz := fun c => by
      simp only [layF] at e
      rw [if_neg c] at e
      exact ⟨congrArg Prod.fst e, congrArg Prod.snd e⟩
    refine ⟨fun z => absurd ((nI_leI (by omega) (by omega)).mp z) (by omega), fun _ => ⟨in_I (by omega) (by omega), fun z => ?_, fun z => ⟨fun y => ?_, fun y => ?_⟩⟩⟩
    · obtain ⟨e1, e2⟩ := stop (by rw [ww_neg z]; omega)
      subst e1; subst e2
      exact qq θ F H hw hN9
    · obtain ⟨w, w4, ex⟩ := ww_in z y
      rw [ex, lN_i]
      refine s_measure H hw (by omega) (fun τ G hV => ?_)
      rw [hV.1]
      have F1 : Fr inE σ τ := F.tr (G.mono (fun k z => Or.inr (inS_sc k z)))
      have H1 := H.fr (G.mono inS_sc) (fun j hj z => by omega)
      refine s_canPullAt hV hw (prB_now hw) w4 ?_
      cases hc : gs h (now h) w && sf h (now h - 8 ^ w)
      · obtain ⟨e1, e2⟩ := stop (by rw [ex, ww_lN w4]; unfold cpB; rw [hc]; exact fun q => absurd q.2 (by decide))
        subst e1; subst e2
        exact bF' (qq τ F1 H1 hw hN9)
      · have hl := cpB_c hw w4 hc
        refine bT' (s_takeLowest H1 hw w4 hl (fun ρ G2 Hρ => ?_))
        refine ih (k + 1) (htake h w) ρ (by omega) (by omega) (F1.tr (G2.mono (fun k z => by have := z.1; have := z.2; omega))) Hρ (wf_take hw hl) hN9 ?_
        simp only [layF] at e
        rw [ex, ww_lN w4, if_pos ⟨w4, hc⟩] at e
        exact e
    · obtain ⟨e1, e2⟩ := stop (by rw [ww_big y]; omega)
      subst e1; subst e2
      exact qq θ F H hw hN9
theorem m_lays35 {σ : St} {s Z : Nat} {f : Nat → Int64} (h4 : s < 4) (hZ : Z ≤ 40) (eZ : gI σ 60 s = nI Z) (ef : ∀ j, j < 40 → gL σ 61 (40 * s + j) = f j) {K : Int32 → St → Prop} {Q : Int32 → St → Prop} {kz : Nat} {hz : MH}
    (kk : ∀ θ, Fr inM σ θ → Ms θ 50 hz → K (nI kz) θ) :
    ∀ n k (h : MH) (θ : St), n = Z - k → k ≤ Z → Fr inM σ θ → Ms θ 50 h → Wf h → layF f n k h = (kz, hz) → P_X7_lays_l35 (nI s) K Q (n + 2) (nI k) 1 θ := by
  have fin : ∀ m k θ, P_X7_lays_l35 (nI s) K Q (m + 1) (nI k) 0 θ ↔ K (nI k) θ := by
    intro m k θ
    rw [P_X7_lays_l35]
    exact ⟨fun z => z.1 rfl, fun z => ⟨fun _ => z, fun y => absurd rfl y⟩⟩
  have hin : vp_in (nI s) 4 := in_I h4 (by omega)
  intro n
  induction n with
  | zero =>
    intro k h θ hn hk F M hw e
    have ek : k = Z := by omega
    subst ek
    have e1 : k = kz := congrArg Prod.fst e
    have e2 : h = hz := congrArg Prod.snd e
    subst e1; subst e2
    rw [P_X7_lays_l35, nI_clamp (by omega), F.i (k := 60) (by decide), eZ]
    exact ⟨fun z => absurd z (by decide), fun _ => ⟨hin, fun _ => kk θ F M, fun z => absurd (nI_le (Nat.le_refl k) (by omega)) z⟩⟩
  | succ n ih =>
    intro k h θ hn hk F M hw e
    rw [P_X7_lays_l35, e40, nI_clamp (n := s) (by omega), nI_clamp (n := 40 * s + k) (by omega), F.i (k := 60) (by decide), eZ, F.l (k := 61) (by decide), ef k (by omega), lg_cmp_lt, lg_cmp_ge, nI_1, fin]
    have stop : ¬ (ww (f k) < 4 ∧ cpB h (ww (f k)) = true) → k = kz ∧ h = hz := fun c => by
      simp only [layF] at e
      rw [if_neg c] at e
      exact ⟨congrArg Prod.fst e, congrArg Prod.snd e⟩
    refine ⟨fun z => absurd z (by decide), fun _ => ⟨hin, fun z => absurd ((nI_leI (by omega) (by omega)).mp z) (by omega), fun _ => ⟨in_I (by omega) (by omega), fun z => ?_, fun z => ⟨fun y => ?_, fun y => ?_⟩⟩⟩⟩
    · obtain ⟨e1, e2⟩ := stop (by rw [ww_neg z]; omega)
      subst e1; subst e2
      exact kk θ F M
    · obtain ⟨e1, e2⟩ := stop (by rw [ww_big (fun q => absurd q (Int64.not_lt.mpr y))]; omega)
      subst e1; subst e2
      exact kk θ F M
    · obtain ⟨w, w4, ex⟩ := ww_in z (Int64.not_le.mp y)
      rw [ex, lN_i]
      refine m_canPullNow M hw w4 (fun τ G => ?_)
      have F1 : Fr inM σ τ := F.tr (G.mono (fun k z => Or.inr (inT_sc k z)))
      have M1 := M.fr G (by decide)
      cases hc : gs h (now h) w && sf h (now h - 8 ^ w)
      · obtain ⟨e1, e2⟩ := stop (by rw [ex, ww_lN w4]; unfold cpB; rw [hc]; exact fun q => absurd q.2 (by decide))
        subst e1; subst e2
        exact bF ((fin _ _ _).mpr (kk τ F1 M1))
      · have hl := cpB_c hw w4 hc
        refine bT (m_takeOut M1 hw w4 hl (fun ρ G2 Mρ => ?_))
        refine ih (k + 1) (htake h w) ρ (by omega) (by omega) (F1.tr (G2.mono (fun k z => Or.inl z))) Mρ (wf_take hw hl) ?_
        simp only [layF] at e
        rw [ex, ww_lN w4, if_pos ⟨w4, hc⟩] at e
        exact e
theorem pp_lays {σ : St} (I : Inv σ) (p0 : Int32) : Same (P_X6_lays p0 σ) (P_X7_lays p0) := by
  obtain ⟨h, R, D⟩ := I
  obtain ⟨hw, hn, H, M, K⟩ := id R
  obtain ⟨B, Z, S⟩ := K.2.2
  unfold Same P_X6_lays
  rcases rn p0 0 3 with ⟨s, _, s3, rfl⟩ | ns
  · have h4 : s < 4 := by omega
    have hin : vp_in (nI s) 4 := in_I h4 (by omega)
    obtain ⟨a1, a2, a3, a4, a5, a6, a7⟩ := S s h4
    have e0 : nI (B s) = 0 ↔ B s = 0 := nI_eq (b := 0) (by omega) (by omega)
    refine s_shF s3 (by omega) a3 (fun nb => ⟨fun _ => ⟨hin, Z s + 1, ?_⟩, fun z => absurd rfl z⟩) (fun eb => ⟨fun z => absurd z (by decide), fun _ => ?_⟩)
    · rw [nI_clamp (by omega)]
      have el : layF (gL σ (41 + 2 * s + 1)) (Z s) 0 h = ((layF (gL σ (41 + 2 * s + 1)) (Z s) 0 h).1, (layF (gL σ (41 + 2 * s + 1)) (Z s) 0 h).2) := rfl
      generalize (layF (gL σ (41 + 2 * s + 1)) (Z s) 0 h).1 = kz at el
      generalize (layF (gL σ (41 + 2 * s + 1)) (Z s) 0 h).2 = hz at el
      have mod : ∀ θ, Fr inE σ θ → Hs θ 1 hz → Wf hz → hN hz ≤ 999 → P_X7_lays (nI s) θ (fun r' τ' => nI kz = r' ∧ Inv τ') := by
        intro θ F Hz wz nz
        unfold P_X7_lays
        rw [nI_clamp (by omega), F.i (k := 59) (by decide), a4, e0]
        refine shm_y s3 (bT' ⟨hin, fun _ => ⟨Z s + 2, ?_⟩, fun q => absurd q nb⟩)
        refine m_lays35 (f := gL σ (41 + 2 * s + 1)) h4 a2 ((F.i (by decide) _).trans a6) (fun j hj => (F.l (by decide) _).trans (a7 j hj).symm) (fun ω G Mz => ⟨rfl, ?_⟩) (Z s) 0 h θ (by omega) (by omega) Fr.rf (M.fr F (by decide)) hw el
        exact iv2 R D wz nz F Hz G Mz
      refine s_lays26 (f := gL σ (41 + 2 * s + 1)) h4 a2 a5 (fun _ => rfl) (fun θ F Hz wz nz ez => ?_) (fun θ F Hz wz nz => mod θ F Hz wz nz) (Z s) 0 h σ (by omega) (by omega) Fr.rf H hw hn el
      rw [F.i (k := 41 + 2 * s) (fun z => by omega), a5, ← ez]
      exact mod θ F Hz wz nz
    · refine ff (i := 5) (by omega) (by decide) R D (fun τ F Rτ E => ?_)
      unfold P_X7_lays
      dsimp only
      rw [nI_clamp (n := s) (by omega), F.i (k := 59) (by decide), a4, e0]
      exact shm_y s3 (bT' ⟨hin, fun q => absurd eb q, fun _ => fm (i := 5) (by omega) (by decide) Rτ E (fun _ J => ⟨rfl, J⟩)⟩)
  · refine s_shFn ns ⟨fun z => absurd z (by decide), fun _ => ff (i := 0) (by omega) (by decide) R D (fun τ F Rτ E => ?_)⟩
    unfold P_X7_lays
    exact shm_n ns (bF' (fm (i := 0) (by omega) (by decide) Rτ E (fun _ J => ⟨rfl, J⟩)))
