/-! BRING -/
theorem tk_C {h : MH} {w v : Nat} : hC (htake h w) v = if v = w then hC h v - 1 else hC h v := rfl
theorem tk_K {h : MH} {w v i : Nat} : hK (htake h w) v i = hK h v (if v = w then i + 1 else i) := by
  show (if v = w then hK h v (i + 1) else hK h v i) = _
  by_cases e : v = w
  · rw [if_pos e, if_pos e]
  · rw [if_neg e, if_neg e]
theorem tk_H {h : MH} {w v i : Nat} : hH (htake h w) v i = hH h v (if v = w then i + 1 else i) := by
  show (if v = w then hH h v (i + 1) else hH h v i) = _
  by_cases e : v = w
  · rw [if_pos e, if_pos e]
  · rw [if_neg e, if_neg e]
theorem tk_tall {h : MH} {w v i : Nat} : tall (htake h w) v i = tall h v (if v = w then i + 1 else i) := by
  unfold tall
  rw [tk_K, tk_H]
  rfl
theorem tk_topK {h : MH} {w v : Nat} : ∀ k, k ≤ hC (htake h w) v → topK (htake h w) v k = topK h v k := by
  intro k
  induction k with
  | zero => intro _; rfl
  | succ k ih =>
    intro hk
    simp only [topK]
    rw [ih (by omega), tk_tall]
    refine addc ?_
    rw [tk_C] at hk ⊢
    by_cases e : v = w
    · rw [if_pos e] at hk ⊢
      rw [if_pos e, show hC h v - 1 - (k + 1) + 1 = hC h v - (k + 1) by omega]
    · rw [if_neg e, if_neg e]
theorem tk_le {h : MH} {w v : Nat} : hC (htake h w) v ≤ hC h v := by
  rw [tk_C]; split <;> omega
theorem tk_pr {h : MH} {w s : Nat} (hp : prB (htake h w) s = true) : prB h s = true := by
  obtain ⟨h1, h2⟩ := prB_iff.mp hp
  exact prB_iff.mpr ⟨h1, fun v hv => Nat.le_trans (h2 v hv) tk_le⟩
theorem tk_gs {h : MH} {w s v : Nat} (hp : prB (htake h w) s = true) (hv : v < 4) : gs (htake h w) s v = gs h s v := by
  have hl := (prB_iff.mp hp).2 v hv
  unfold gs
  by_cases z : 0 < lf s v
  · rw [tk_K]
    rw [tk_C] at hl ⊢
    by_cases e : v = w
    · rw [if_pos e] at hl ⊢
      rw [if_pos e, show hC h v - 1 - lf s v + 1 = hC h v - lf s v by omega]
    · rw [if_neg e, if_neg e]
  · rw [decide_eq_false z, Bool.false_and, Bool.false_and]
theorem tk_sf {h : MH} {w s : Nat} (hp : prB (htake h w) s = true) : sf (htake h w) s = sf h s := by
  have t : ∀ v, v < 4 → tp (htake h w) s v = tp h s v := fun v hv => tk_topK _ ((prB_iff.mp hp).2 v hv)
  have d : ∀ b, b < 3 → dB (htake h w) s b = dB h s b := fun b hb => by
    unfold dB
    rw [t b (by omega), t (b + 1) (by omega)]
    rfl
  unfold sf wd
  rw [d 0 (by omega), d 1 (by omega), d 2 (by omega)]
  rfl
theorem tk_now {h : MH} {w : Nat} (h4 : w < 4) (h0 : 0 < hC h w) : now (htake h w) = now h - 8 ^ w := by
  unfold now
  rw [tk_C, tk_C, tk_C, tk_C]
  rcases w4 h4 with rfl | rfl | rfl | rfl
  · rw [if_pos rfl, if_neg (by omega), if_neg (by omega), if_neg (by omega)]; omega
  · rw [if_neg (by omega), if_pos rfl, if_neg (by omega), if_neg (by omega)]; omega
  · rw [if_neg (by omega), if_neg (by omega), if_pos rfl, if_neg (by omega)]; omega
  · rw [if_neg (by omega), if_neg (by omega), if_neg (by omega), if_pos rfl]; omega
/-- a house out of which stones were pulled -/
def Sb (h0 h : MH) : Prop := ∀ s, prB h s = true → prB h0 s = true ∧ (∀ v, v < 4 → gs h s v = gs h0 s v) ∧ sf h s = sf h0 s
theorem Sb.rf {h : MH} : Sb h h := fun _ hp => ⟨hp, fun _ _ => rfl, rfl⟩
theorem Sb.tk {h0 h : MH} (S : Sb h0 h) (w : Nat) : Sb h0 (htake h w) := fun s hp => by
  obtain ⟨a, b, c⟩ := S s (tk_pr hp)
  exact ⟨a, fun v hv => (tk_gs hp hv).trans (b v hv), (tk_sf hp).trans c⟩
theorem Ld_sb {h0 h : MH} (S : Sb h0 h) {to : Nat} : ∀ n s, s ≤ n → prB h s = true → Ld h to s = Ld h0 to s := by
  intro n
  induction n with
  | zero =>
    intro s hs _
    have e : s = 0 := by omega
    subst e
    rw [Ld_eq, Ld_eq (h := h0)]
    simp
  | succ n ih =>
    intro s hs hp
    obtain ⟨p0, g, _⟩ := S s hp
    rw [Ld_eq (h := h) s, Ld_eq (h := h0) s, hp, p0, an4_congr (q := fun w => gs h0 s w && sf h0 (s - 8 ^ w) && Ld h0 to (s - 8 ^ w)) (fun w h4 => ?_)]
    rw [g w h4]
    cases e : gs h0 s w
    · simp only [Bool.false_and]
    · have l0 := gs_lf e
      have hp2 := prB_sub hp h4 l0
      have h8 := (lf_sub (prB_iff.mp hp).1 h4 l0 (v := 0) (by omega)).1
      have hp8 := p8_pos w
      rw [(S _ hp2).2.2, ih (s - 8 ^ w) (by omega) hp2]
theorem lp_sb {h0 h : MH} (S : Sb h0 h) {to a w : Nat} (hp : prB h a = true) (h4 : w < 4) : lp h to a w = lp h0 to a w := by
  unfold lp
  rw [(S a hp).2.1 w h4]
  cases e : gs h0 a w
  · simp only [Bool.false_and]
  · have hp2 := prB_sub hp h4 (gs_lf e)
    rw [(S _ hp2).2.2, Ld_sb S _ _ (Nat.le_refl _) hp2]
theorem Ld_part {h : MH} {to : Nat} : ∀ n s, s ≤ n → s < 4096 → Ld h to s = true → ∀ v, v < 4 → lf to v ≤ lf s v := by
  intro n
  induction n with
  | zero =>
    intro s hs h9 q v hv
    rcases Ld_iff.mp q with z | z
    · rw [z]; exact Nat.le_refl _
    · have := z.1; omega
  | succ n ih =>
    intro s hs h9 q v hv
    rcases Ld_iff.mp q with z | ⟨_, hp, w, h4, c1, _, c3⟩
    · rw [z]; exact Nat.le_refl _
    · have l0 := gs_lf c1
      obtain ⟨h8, e⟩ := lf_sub h9 h4 l0 hv
      have hp8 := p8_pos w
      have := ih (s - 8 ^ w) (by omega) (by omega) c3 v hv
      rw [e] at this
      split at this <;> omega
def fw4 (p : Nat → Bool) : Nat := if p 0 = true then 0 else if p 1 = true then 1 else if p 2 = true then 2 else 3
theorem fw4_eq {p : Nat → Bool} {w : Nat} (h4 : w < 4) (hy : p w = true) (hn : ∀ v, v < w → p v = false) : fw4 p = w := by
  unfold fw4
  have ne : ∀ v, v < w → ¬ p v = true := fun v hv => by rw [hn v hv]; decide
  rcases w4 h4 with rfl | rfl | rfl | rfl
  · rw [if_pos hy]
  · rw [if_neg (ne 0 (by omega)), if_pos hy]
  · rw [if_neg (ne 0 (by omega)), if_neg (ne 1 (by omega)), if_pos hy]
  · rw [if_neg (ne 0 (by omega)), if_neg (ne 1 (by omega)), if_neg (ne 2 (by omega))]
/-- the pulls of the least row -/
def brF (to : Nat) : Nat → Nat → MH → Nat × MH
  | 0, k, h => (k, h)
  | n + 1, k, h => if now h = to then (k, h) else brF to n (k + 1) (htake h (fw4 (lp h to (now h))))
theorem brF_to {to : Nat} {n k : Nat} {h : MH} (e : now h = to) : brF to n k h = (k, h) := by
  cases n with
  | zero => rfl
  | succ n => simp only [brF]; rw [if_pos e]
theorem s_bring75 {σ : St} {h0 : MH} {to : Nat} (hw0 : Wf h0) (hp : prB h0 to = true) (hV : Sv σ 19 h0) (A : ∀ s, s ≤ now h0 → gL σ 24 s = lN (ldN h0 to s)) {K Q : Int32 → St → Prop} {kz : Nat} {hz : MH}
    (kk : ∀ θ, Fr (inH 1) σ θ → Hs θ 1 hz → Wf hz → hN hz ≤ 999 → K (nI kz) θ) :
    ∀ n k (h : MH) (θ : St), stn (now h) ≤ n → k + stn (now h) = stn (now h0) → Fr (inH 1) σ θ → Hs θ 1 h → Wf h → hN h ≤ 999 → Sb h0 h → Ld h0 to (now h) = true → brF to n k h = (kz, hz) → P_X6_bring_l75 (nI to) K Q (n + 1) (nI k) (nI (now h)) θ := by
  have s28 := stn_le (now h0)
  have hto := (prB_iff.mp hp).1
  intro n
  induction n with
  | zero =>
    intro k h θ hn hk F H hw hN9 S q e
    have hnl := now_lt hw
    have en : now h = to := by
      rcases Ld_iff.mp q with z | ⟨_, hp2, w, h4, c1, _⟩
      · exact z
      · have := stn_sub (prB_iff.mp hp2).1 h4 (gs_lf c1); omega
    rw [brF_to en] at e
    have e1 : k = kz := congrArg Prod.fst e
    have e2 : h = hz := congrArg Prod.snd e
    subst e1; subst e2
    rw [P_X6_bring_l75, en]
    exact ⟨fun _ => kk θ F H hw hN9, fun z => absurd rfl z⟩
  | succ n ih =>
    intro k h θ hn hk F H hw hN9 S q e
    have hnl := now_lt hw
    by_cases en : now h = to
    · rw [brF_to en] at e
      have e1 : k = kz := congrArg Prod.fst e
      have e2 : h = hz := congrArg Prod.snd e
      subst e1; subst e2
      rw [P_X6_bring_l75, en]
      exact ⟨fun _ => kk θ F H hw hN9, fun z => absurd rfl z⟩
    · have hps := prB_now hw
      have hp0 := (S _ hps).1
      have hle := prB_le hp0
      have lt : to < now h := by
        rcases Ld_iff.mp q with z | z
        · exact absurd z en
        · exact z.1
      have ex := (Ld_lp lt hp0).mp q
      have s1 : 1 ≤ stn (now h) := by
        obtain ⟨w, h4, c⟩ := ex
        have := stn_sub hnl h4 (gs_lf (lp_iff.mp c).1); omega
      have V1 : Sv θ 19 h0 := hV.fr F (fun j hj z => by have := z.2; omega)
      rw [P_X6_bring_l75]
      refine ⟨fun z => absurd ((nI_eq (by omega) (by omega)).mp z) en, fun _ => ⟨fun z => absurd ((nI_leI (a := 28) (by omega) (by omega)).mp z) (by omega), fun _ => s_leadFrom V1 hw0 hp0 (fun s hs => by rw [F.l (fun z => by have := z.2; omega)]; exact A s (by omega)) (fun no => ?_) (fun w h4 c1 c2 => ⟨fun _ => ?_, fun y => absurd (nI_pos' (by omega)) y⟩)⟩⟩
      · obtain ⟨w, h4, c⟩ := ex
        rw [no w h4] at c; exact absurd c (by decide)
      · obtain ⟨g1, g2, g3⟩ := lp_iff.mp c1
        have l0 := gs_lf g1
        have h8 := (lf_sub hnl h4 l0 (v := 0) (by omega)).1
        have st := stn_sub hnl h4 l0
        rw [lf_now hw h4] at l0
        refine s_takeLowest H hw h4 l0 (fun ρ G Hρ => s_unit h4 ?_)
        rw [nI_1, pk_sub h8, ← tk_now h4 l0]
        rw [← tk_now h4 l0] at st g3
        refine ih (k + 1) (htake h w) ρ (by omega) (by omega) (F.tr G) Hρ (wf_take hw l0) hN9 (S.tk w) g3 ?_
        simp only [brF] at e
        rw [if_neg en, fw4_eq h4 (by rw [lp_sb S hps h4]; exact c1) (fun v hv => by rw [lp_sb S hps (by omega)]; exact c2 v hv)] at e
        exact e
abbrev inB : Nat → Prop := fun k => k = 50 ∨ inL k
theorem m_bring41 {σ : St} {to : Nat} (hto : to < 4096) {K Q : Int32 → St → Prop} {kz : Nat} {hz : MH} (kk : ∀ θ, Fr inB σ θ → Ms θ 50 hz → K (nI kz) θ) :
    ∀ n k (h : MH) (θ : St), stn (now h) ≤ n → Fr inB σ θ → Ms θ 50 h → Mo θ h → (∀ s, s ≤ now h → gI θ 56 s = bI (lM h to s)) → Wf h → prB h to = true → Ld h to (now h) = true → brF to n k h = (kz, hz) → P_X7_bring_l41 (nI to) K Q (n + 1) (nI k) θ := by
  intro n
  induction n with
  | zero =>
    intro k h θ hn F M O L hw hp q e
    have hnl := now_lt hw
    have en : now h = to := by
      rcases Ld_iff.mp q with z | ⟨_, hp2, w, h4, c1, _⟩
      · exact z
      · have := stn_sub (prB_iff.mp hp2).1 h4 (gs_lf c1); omega
    rw [brF_to en] at e
    have e1 : k = kz := congrArg Prod.fst e
    have e2 : h = hz := congrArg Prod.snd e
    subst e1; subst e2
    rw [P_X7_bring_l41]
    exact m_standNow M hw ⟨fun _ => kk θ F M, fun z => absurd (by rw [en]) z⟩
  | succ n ih =>
    intro k h θ hn F M O L hw hp q e
    have hnl := now_lt hw
    by_cases en : now h = to
    · rw [brF_to en] at e
      have e1 : k = kz := congrArg Prod.fst e
      have e2 : h = hz := congrArg Prod.snd e
      subst e1; subst e2
      rw [P_X7_bring_l41]
      exact m_standNow M hw ⟨fun _ => kk θ F M, fun z => absurd (by rw [en]) z⟩
    · have hps := prB_now hw
      have lt : to < now h := by
        rcases Ld_iff.mp q with z | z
        · exact absurd z en
        · exact z.1
      obtain ⟨w, h4, c1, c2⟩ := lp_first ((Ld_lp lt hps).mp q)
      obtain ⟨g1, g2, g3⟩ := lp_iff.mp c1
      have l0 := gs_lf g1
      have st := stn_sub hnl h4 l0
      rw [lf_now hw h4] at l0
      rw [← tk_now h4 l0] at st g3
      rw [P_X7_bring_l41]
      refine m_standNow M hw ⟨fun z => absurd ((nI_eq (by omega) (by omega)).mp z) en, fun _ => m_standNow M hw (m_firstFrom M O hw L h4 c1 c2 (m_takeOut M hw h4 l0 (fun ρ G Mρ => ?_)))⟩
      have hw1 := wf_take hw l0
      have hp1 : prB (htake h w) to = true := prB_iff.mpr ⟨hto, fun v hv => by
        have := Ld_part _ _ (Nat.le_refl _) (now_lt hw1) g3 v hv
        rwa [lf_now hw1 hv] at this⟩
      refine m_findLeads Mρ hw1 hp1 (fun π G2 O2 L2 => ?_)
      rw [nI_1]
      refine ih (k + 1) (htake h w) π (by omega) ((F.tr (G.mono (fun k (z : k = 50) => Or.inl z))).tr (G2.mono (fun k z => Or.inr z))) (Mρ.fr G2 (by decide)) O2 L2 hw1 hp1 ?_ ?_
      · rw [Ld_sb (Sb.rf.tk w) _ _ (Nat.le_refl _) (prB_now hw1)]; exact g3
      · simp only [brF] at e
        rw [if_neg en, fw4_eq h4 c1 c2] at e
        exact e
theorem pp_bring {σ : St} (I : Inv σ) (p0 : Int32) : Same (P_X6_bring p0 σ) (P_X7_bring p0) := by
  have I0 := I
  obtain ⟨h, R, D⟩ := I
  obtain ⟨hw, hn, H, M, K⟩ := id R
  have hnl := now_lt hw
  unfold Same P_X6_bring
  rcases sdc h p0 with ⟨s, rfl, hp⟩ | no
  · have hs := prB_le hp
    refine sd_y H hw hp (bT' (s_measure H hw (by omega) (fun τ F hV => s_lead hV hw hp (fun ρ F2 A => ?_))))
    have F3 : Fr sc σ ρ := (F.mono inS_sc).tr (F2.mono (fun k (z : k = 24) => by omega))
    have R3 : Re ρ h := R.fr (F3.mono (fun k z => by omega))
    have D3 : Fdd ρ := D.fr F3 (by decide) (by decide)
    have V3 := Sv24 hV F2
    have M3 := R3.2.2.2.1
    have H3 := R3.2.2.1
    rw [V3.1, nI_clamp (by omega), A _ (Nat.le_refl _), lgc_eq (by unfold ldN; split <;> omega)]
    refine ⟨in_I (by omega) (by omega), fun z => ⟨stn (now h) + 1, ?_⟩, fun z => ?_⟩
    · have ld : Ld h s (now h) = true := by
        cases e : Ld h s (now h)
        · unfold ldN at z; rw [e] at z; exact absurd rfl z
        · rfl
      obtain ⟨kz, hz, ez⟩ : ∃ kz hz, brF s (stn (now h)) 0 h = (kz, hz) := ⟨_, _, rfl⟩
      refine s_bring75 (kz := kz) (hz := hz) hw hp V3 A (fun θ Fθ Hθ hwz hnz => ?_) (stn (now h)) 0 h ρ (Nat.le_refl _) (by omega) Fr.rf H3 hw hn Sb.rf ld ez
      have Mθ := M3.fr Fθ (fun z => by have := z.2; omega)
      unfold P_X7_bring
      refine sdm_y Mθ hw hp (bT' (m_findLeads Mθ hw hp (fun π Fπ O L => ?_)))
      have Mπ := Mθ.fr Fπ (by decide)
      refine m_standNow Mπ hw ?_
      rw [nI_clamp (by omega), L _ (Nat.le_refl _), bI_0]
      refine ⟨in_I (by omega) (by omega), fun _ => ⟨stn (now h) + 1, ?_⟩, fun y => ?_⟩
      · refine m_bring41 (kz := kz) (hz := hz) (prB_iff.mp hp).1 (fun ω G Mz => ⟨rfl, ?_⟩) (stn (now h)) 0 h π (Nat.le_refl _) Fr.rf Mπ O L hw hp ld ez
        exact iv2 R3 D3 hwz hnz (Fθ.mono (fun k z => by have := z.1; have := z.2; omega)) Hθ ((Fπ.mono (fun k z => by omega)).tr (G.mono (fun k z => by omega))) Mz
      · unfold lM at y
        rw [ld, decide_eq_true rfl, Bool.true_or] at y
        exact absurd y (by decide)
    · have ld : Ld h s (now h) = false := by
        cases e : Ld h s (now h)
        · rfl
        · unfold ldN at z; rw [if_pos e] at z; omega
      refine badc R3 D3 (i := 4) (by omega) (by decide) (P2 := P_X7_bring (nI s)) (fun θ Rθ X b => ?_)
      unfold P_X7_bring
      refine sdm_y Rθ.2.2.2.1 hw hp (bT' (m_findLeads Rθ.2.2.2.1 hw hp (fun π Fπ O L => ?_)))
      have Rπ : Re π h := Rθ.fr (Fπ.mono (fun k z => by omega))
      refine m_standNow Rπ.2.2.2.1 hw ?_
      rw [nI_clamp (by omega), L _ (Nat.le_refl _), bI_0]
      refine ⟨in_I (by omega) (by omega), fun y => absurd ?_ y, fun _ => b π Rπ (Fπ.mono inL_sc)⟩
      unfold lM; rw [ld, Bool.false_and]
  · refine sd_n H hw no (bF' (bad0 R D (P2 := P_X7_bring p0) (fun τ Rτ X b => ?_)))
    unfold P_X7_bring
    exact sdm_n Rτ.2.2.2.1 hw no (bF' (b _ Rτ Fr.rf))
