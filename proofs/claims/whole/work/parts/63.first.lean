/-! FIRST: the class marks the stands that lead to another -/
def lp (h : MH) (to a w : Nat) : Bool := gs h a w && sf h (a - 8 ^ w) && Ld h to (a - 8 ^ w)
theorem lp_iff {h : MH} {to a w : Nat} : lp h to a w = true ↔ gs h a w = true ∧ sf h (a - 8 ^ w) = true ∧ Ld h to (a - 8 ^ w) = true := by
  unfold lp; rw [Bool.and_eq_true, Bool.and_eq_true]; exact and_assoc
theorem Ld_lp {h : MH} {to a : Nat} (ha : to < a) (hp : prB h a = true) : Ld h to a = true ↔ ∃ w, w < 4 ∧ lp h to a w = true := by
  rw [Ld_iff]
  constructor
  · rintro (z | ⟨_, _, w, h4, c⟩)
    · omega
    · exact ⟨w, h4, lp_iff.mpr c⟩
  · rintro ⟨w, h4, c⟩
    exact Or.inr ⟨ha, hp, w, h4, lp_iff.mp c⟩
theorem Ld_self {h : MH} {to : Nat} : Ld h to to = true := Ld_iff.mpr (Or.inl rfl)
theorem Ld_lt {h : MH} {to s : Nat} (hs : s < to) : Ld h to s = false := by
  cases q : Ld h to s
  · rfl
  · rcases Ld_iff.mp q with z | z
    · omega
    · have := z.1; omega
theorem Ld_np {h : MH} {to s : Nat} (hs : to < s) (hp : prB h s = false) : Ld h to s = false := by
  cases q : Ld h to s
  · rfl
  · rcases Ld_iff.mp q with z | z
    · omega
    · have := z.2.1; rw [hp] at this; exact absurd this (by decide)
theorem Ld_pr {h : MH} {to s : Nat} (hp : prB h to = true) (q : Ld h to s = true) : prB h s = true := by
  rcases Ld_iff.mp q with z | z
  · rw [z]; exact hp
  · exact z.2.1
def ldN (h : MH) (to s : Nat) : Nat := if Ld h to s = true then 1 else 0
theorem s_leadFrom {σ : St} {h : MH} {to a : Nat} (hV : Sv σ 19 h) (hw : Wf h) (hp : prB h a = true) (A : ∀ s, s < a → gL σ 24 s = lN (ldN h to s)) {Q : Int32 → Prop}
    (no : (∀ w, w < 4 → lp h to a w = false) → Q (-1)) (yes : ∀ w, w < 4 → lp h to a w = true → (∀ v, v < w → lp h to a v = false) → Q (nI w)) : P_X1_leadFrom 19 (nI a) σ Q := by
  have ha := (prB_iff.mp hp).1
  unfold P_X1_leadFrom
  refine ⟨5, ?_⟩
  have head : ∀ n w, n = 4 - w → w ≤ 4 → (∀ v, v < w → lp h to a v = false) → P_X1_leadFrom_l2 19 (nI a) (fun t40 => Q (-1)) Q (n + 1) (nI w) σ := by
    intro n
    induction n with
    | zero =>
      intro w hn h4 B
      have e : w = 4 := by omega
      subst e
      rw [P_X1_leadFrom_l2]
      exact ⟨fun _ => no B, fun z => absurd (nI_le (a := 4) (b := 4) (by omega) (by omega)) z⟩
    | succ n ih =>
      intro w hn hw4 B
      have h4 : w < 4 := by omega
      have nx : lp h to a w = false → P_X1_leadFrom_l2 19 (nI a) (fun t40 => Q (-1)) Q (n + 1) (nI w + 1) σ := fun q => by
        rw [nI_1]
        refine ih (w + 1) (by omega) (by omega) (fun v hv => ?_)
        by_cases e : v = w
        · rw [e]; exact q
        · exact B v (by omega)
      rw [P_X1_leadFrom_l2]
      refine ⟨fun z => absurd ((nI_leI (a := 4) (by omega) (by omega)).mp z) (by omega), fun _ => s_canPullAt hV hw hp h4 ⟨fun z => nx ?_, fun z => s_unit h4 ?_⟩⟩
      · unfold lp; rw [z]; rfl
      · obtain ⟨z1, z2⟩ := Bool.and_eq_true_iff.mp z
        have h8 := (lf_sub ha h4 (gs_lf z1) (v := 0) (by omega)).1
        have hp8 := p8_pos w
        rw [pk_sub h8, nI_clamp (by omega), A _ (by omega), lgc_pos (by unfold ldN; split <;> omega)]
        refine ⟨in_I (by omega) (by omega), fun y => nx ?_, fun y => ?_⟩
        · unfold lp
          rw [z, Bool.true_and]
          cases q : Ld h to (a - 8 ^ w)
          · rfl
          · unfold ldN at y; rw [if_pos q] at y; omega
        · refine yes w h4 (lp_iff.mpr ⟨z1, z2, ?_⟩) B
          cases q : Ld h to (a - 8 ^ w)
          · unfold ldN at y; rw [if_neg (by rw [q]; decide)] at y; exact absurd rfl y
          · rfl
  exact head 4 0 (by omega) (by omega) (fun v hv => by omega)
theorem s_lead {σ : St} {h : MH} {to : Nat} (hV : Sv σ 19 h) (hw : Wf h) (hp : prB h to = true) {Q : St → Prop} (hQ : ∀ τ, Fr (isC 24) σ τ → (∀ s, s ≤ now h → gL τ 24 s = lN (ldN h to s)) → Q τ) : P_X1_lead 19 (nI to) σ Q := by
  have hn := now_lt hw
  have hto := prB_le hp
  unfold P_X1_lead
  rw [hV.1, nI_1]
  refine s_jfill (c := 24) (by decide) (by show now h + 1 ≤ 4096; omega) (fun τ F h1 h2 => ⟨in_I (by omega) (by omega), now h + 1 - to, ?_⟩)
  rw [nI_clamp (by omega), nI_1]
  have head : ∀ n a ρ, n + a = now h + 1 → to < a → Fr (isC 24) σ ρ → (∀ s, s < a → gL ρ 24 s = lN (ldN h to s)) → (∀ s, a ≤ s → s ≤ now h → gL ρ 24 s = 0) → P_X1_lead_l26 19 (fun t67 => Q t67) Q (n + 1) (nI a) ρ := by
    intro n
    induction n with
    | zero =>
      intro a ρ ha hta Fρ A B
      rw [P_X1_lead_l26, (Sv24 hV Fρ).1]
      exact ⟨fun _ => hQ ρ Fρ (fun s hs => A s (by omega)), fun z => absurd (nI_lt (by omega) (by omega)) z⟩
    | succ n ih =>
      intro a ρ ha hta Fρ A B
      have V1 := Sv24 hV Fρ
      have nx0 : ldN h to a = 0 → P_X1_lead_l26 19 (fun t67 => Q t67) Q (n + 1) (nI a + 1) ρ := fun q => by
        rw [nI_1]
        refine ih (a + 1) ρ (by omega) (by omega) Fρ (fun s hs => ?_) (fun s hs hs2 => B s (by omega) hs2)
        by_cases e : s = a
        · rw [e, q]; exact B a (by omega) (by omega)
        · exact A s (by omega)
      rw [P_X1_lead_l26, V1.1]
      refine ⟨fun z => absurd ((nI_ltI (by omega) (by omega)).mp z) (by omega), fun _ => s_isPartOf hw (fun s e hps => ?_) (fun no => bF (nx0 ?_))⟩
      · have e2 : a = s := (nI_eq (by omega) (by have := (prB_iff.mp hps).1; omega)).mp e
        subst e2
        refine bT (s_leadFrom V1 hw hps A (fun q => ⟨fun _ => nx0 ?_, fun z => absurd (by decide) z⟩) (fun w h4 q _ => ⟨fun z => absurd z (nI_pos (by omega)), fun _ => ⟨in_I (by omega) (by omega), ?_⟩⟩))
        · unfold ldN
          rw [if_neg (fun z => ?_)]
          obtain ⟨w, h4, c⟩ := (Ld_lp hta hps).mp z
          rw [q w h4] at c; exact absurd c (by decide)
        · rw [nI_clamp (by omega), nI_1]
          refine ih (a + 1) _ (by omega) (by omega) (Fρ.sL rfl _ _) (fun s hs => ?_) (fun s hs hs2 => by rw [gL_ne (by omega)]; exact B s (by omega) hs2)
          by_cases e : s = a
          · rw [e, gL_eq]; unfold ldN; rw [if_pos ((Ld_lp hta hps).mpr ⟨w, h4, q⟩)]; rfl
          · rw [gL_ne (by omega)]; exact A s (by omega)
      · unfold ldN
        rw [if_neg (by rw [Ld_np hta (by cases q : prB h a; rfl; exact absurd (no a rfl q) id)]; decide)]
  have key := head (now h - to) (to + 1) (sL τ 24 to 1) (by omega) (by omega) (F.sL rfl _ _) (fun s hs => ?_) (fun s hs hs2 => by rw [gL_ne (by omega)]; exact h1 s (by omega))
  · rw [show now h - to + 1 = now h + 1 - to by omega] at key; exact key
  · by_cases e : s = to
    · rw [e, gL_eq]; unfold ldN; rw [if_pos Ld_self]; rfl
    · rw [gL_ne (by omega)]; unfold ldN; rw [if_neg (by rw [Ld_lt (show s < to by omega)]; decide)]; exact h1 s (by omega)
