/-! FIRST: the reference's leads -/
def lM (h : MH) (to s : Nat) : Bool := Ld h to s && (decide (s = now h) || sf h s)
/-- what its inner loop has found, of the walls below v -/
def og (h : MH) (to s : Nat) : Nat → Bool
  | 0 => false
  | v + 1 => og h to s v || (ed h okT s v && lM h to (s - 8 ^ v))
theorem og_iff {h : MH} {to s : Nat} : ∀ v, og h to s v = true ↔ ∃ w, w < v ∧ ed h okT s w = true ∧ lM h to (s - 8 ^ w) = true := by
  intro v
  induction v with
  | zero => simp [og]
  | succ v ih =>
    simp only [og]
    rw [Bool.or_eq_true, Bool.and_eq_true, ih]
    constructor
    · rintro (⟨w, a, b⟩ | z)
      · exact ⟨w, by omega, b⟩
      · exact ⟨v, by omega, z⟩
    · rintro ⟨w, a, b⟩
      by_cases e : w = v
      · subst e; exact Or.inr b
      · exact Or.inl ⟨w, by omega, b⟩
theorem lM_b {h : MH} {to s : Nat} (hs : s < now h) : lM h to s = (Ld h to s && sf h s) := by
  unfold lM; rw [decide_eq_false (by omega), Bool.false_or]
theorem og_Ld {h : MH} {to s : Nat} (ht : to < s) (hs : s ≤ now h) : og h to s 4 = Ld h to s := by
  rw [Bool.eq_iff_iff, og_iff, Ld_iff]
  constructor
  · rintro ⟨w, h4, e, l⟩
    have h8 := ed_8 h4 e
    have hp8 := p8_pos w
    rw [lM_b (by omega), Bool.and_eq_true] at l
    exact Or.inr ⟨ht, ed_pr e, w, h4, (ed_iff.mp e).2.1, l.2, l.1⟩
  · rintro (z | ⟨_, hp, w, h4, c1, c2, c3⟩)
    · omega
    · have e : ed h okT s w = true := ed_iff.mpr ⟨hp, c1, rfl⟩
      have h8 := ed_8 h4 e
      have hp8 := p8_pos w
      exact ⟨w, h4, e, by rw [lM_b (by omega), c2, c3]; rfl⟩
theorem nf_ {b : Bool} (z : ¬ b = false) : b = true := by cases b; exact absurd rfl z; rfl
theorem nt_ {b : Bool} (z : ¬ b = true) : b = false := by cases b; rfl; exact absurd rfl z
theorem bI_0 {b : Bool} : bI b = 0 ↔ b = false := by cases b <;> decide
theorem m_leads39 {σ : St} {h : MH} {to : Nat} (hw : Wf h) (G : Go σ h) {s : Nat} (hs : s ≤ now h) (ht : to < s) {K Q : St → Prop}
    (kk : ∀ τ, Fr (isC 56) σ τ → (∀ k, k < s → gI τ 56 k = bI (lM h to k)) → gI τ 56 s = bI (Ld h to s) → K τ) :
    ∀ (n v : Nat) (τ : St), n = 4 - v → v ≤ 4 → Fr (isC 56) σ τ → (∀ k, k < s → gI τ 56 k = bI (lM h to k)) → gI τ 56 s = bI (og h to s v) → P_X7_findLeads_l39 (nI to) (nI (now h)) (nI s) K Q (n + 1) (nI v) τ := by
  have hn := now_lt hw
  intro n
  induction n with
  | zero =>
    intro v τ hn4 hv F A B
    have e : v = 4 := by omega
    subst e
    rw [P_X7_findLeads_l39]
    rw [og_Ld ht hs] at B
    exact ⟨fun _ => kk τ F A B, fun z => absurd (nI_le (a := 4) (b := 4) (by omega) (by omega)) z⟩
  | succ n ih =>
    intro v τ hn4 hv F A B
    have h4 : v < 4 := by omega
    have hin : vp_in (nI s) 4096 := in_I (by omega) (by omega)
    have nx : ∀ b : Bool, og h to s (v + 1) = b → P_X7_findLeads_l39 (nI to) (nI (now h)) (nI s) K Q (n + 1) (nI (v + 1)) (sI τ 56 s (bI b)) := by
      intro b eb
      refine ih (v + 1) _ (by omega) (by omega) (F.sI rfl _ _) (fun k hk => ?_) ?_
      · rw [gI_ne (by omega)]; exact A k hk
      · rw [gI_eq, eb]
    rw [P_X7_findLeads_l39, nI_clamp (n := s) (by omega), B, (G.fr F (by decide)) s hs, go_bit h4, un_I h4, nI_1, bI_0]
    refine ⟨fun z => absurd ((nI_leI (a := 4) (by omega) (by omega)).mp z) (by omega), fun _ => ⟨fun z => absurd ((nI_leI (by omega) (by omega)).mp z) (by omega), fun _ => ⟨hin, fun z => ⟨hin, nx true ?_⟩, fun z => ⟨hin, fun y => ⟨hin, nx false ?_⟩, fun y => ?_⟩⟩⟩⟩
    · simp only [og]
      rw [nf_ z, Bool.true_or]
    · simp only [og]
      rw [z, Bool.false_or, nt_ y, Bool.false_and]
    · have h8 := ed_8 h4 y
      have hp8 := p8_pos v
      rw [pk_sub h8, nI_clamp (by omega), A _ (by omega), bI_0]
      refine ⟨in_I (by omega) (by omega), fun x => ⟨hin, nx false ?_⟩, fun x => ⟨hin, nx true ?_⟩⟩
      · simp only [og]; rw [z, x, Bool.and_false, Bool.or_false]
      · simp only [og]; rw [nf_ x, y, Bool.and_true, Bool.or_true]
abbrev inL : Nat → Prop := fun k => k = 52 ∨ k = 53 ∨ k = 55 ∨ k = 56
theorem inL_sc (k : Nat) (z : inL k) : sc k := by omega
theorem m_leads15 {σ : St} {h : MH} {to : Nat} (M : Ms σ 50 h) (O : Mo σ h) (G : Go σ h) (hw : Wf h) (hp : prB h to = true) {K Q : St → Prop}
    (kk : ∀ τ, Fr (isC 56) σ τ → (∀ s, s ≤ now h → gI τ 56 s = bI (lM h to s)) → K τ) :
    ∀ (n s : Nat) (τ : St), n + s = now h + 1 → Fr (isC 56) σ τ → (∀ k, k < s → gI τ 56 k = bI (lM h to k)) → P_X7_findLeads_l15 (nI to) (nI (now h)) K Q (n + 1) (nI s) τ := by
  have hn := now_lt hw
  have hto := prB_le hp
  intro n
  induction n with
  | zero =>
    intro s τ hs F A
    rw [P_X7_findLeads_l15]
    exact ⟨fun _ => kk τ F (fun k hk => A k (by omega)), fun z => absurd (nI_lt (by omega) (by omega)) z⟩
  | succ n ih =>
    intro s τ hs F A
    have hin : vp_in (nI s) 4096 := in_I (by omega) (by omega)
    have nx : ∀ (ρ : St) (b : Bool), Fr (isC 56) σ ρ → (∀ k, k < s → gI ρ 56 k = bI (lM h to k)) → lM h to s = b → P_X7_findLeads_l15 (nI to) (nI (now h)) K Q (n + 1) (nI s + 1) (sI ρ 56 (nI s).toNatClampNeg (bI b)) := by
      intro ρ b Fρ Aρ eb
      rw [nI_clamp (by omega), nI_1]
      refine ih (s + 1) _ (by omega) (Fρ.sI rfl _ _) (fun k hk => ?_)
      by_cases e : k = s
      · rw [e, gI_eq, eb]
      · rw [gI_ne (by omega)]; exact Aρ k (by omega)
    have fin : ∀ ρ : St, Fr (isC 56) σ ρ → (∀ k, k < s → gI ρ 56 k = bI (lM h to k)) → gI ρ 56 s = bI (Ld h to s) →
        (vp_in (nI s) 4096 ∧ (((gI ρ 56 (nI s).toNatClampNeg) = 0) → vp_in (nI s) 4096 ∧ P_X7_findLeads_l15 (nI to) (nI (now h)) K Q (n + 1) (nI s + 1) (sI ρ 56 ((nI s).toNatClampNeg) 0)) ∧ ((¬ (gI ρ 56 (nI s).toNatClampNeg) = 0) → ((nI s = nI (now h)) → vp_in (nI s) 4096 ∧ P_X7_findLeads_l15 (nI to) (nI (now h)) K Q (n + 1) (nI s + 1) (sI ρ 56 ((nI s).toNatClampNeg) 1)) ∧ ((¬ nI s = nI (now h)) → P_X7_isSafe (nI s) ρ (fun r128 => ((r128 = false) → vp_in (nI s) 4096 ∧ P_X7_findLeads_l15 (nI to) (nI (now h)) K Q (n + 1) (nI s + 1) (sI ρ 56 ((nI s).toNatClampNeg) 0)) ∧ ((r128 = true) → vp_in (nI s) 4096 ∧ P_X7_findLeads_l15 (nI to) (nI (now h)) K Q (n + 1) (nI s + 1) (sI ρ 56 ((nI s).toNatClampNeg) 1)))))) := by
      intro ρ Fρ Aρ Bρ
      have eB : gI ρ 56 (nI s).toNatClampNeg = bI (Ld h to s) := by rw [nI_clamp (by omega)]; exact Bρ
      rw [eB, bI_0]
      refine ⟨hin, fun z => ⟨hin, nx ρ false Fρ Aρ ?_⟩, fun z => ⟨fun y => ⟨hin, nx ρ true Fρ Aρ ?_⟩, fun y => ?_⟩⟩
      · unfold lM; rw [z, Bool.false_and]
      · unfold lM; rw [nf_ z, decide_eq_true ((nI_eq (by omega) (by omega)).mp y), Bool.true_or]; rfl
      · have z2 := nf_ z
        have sn : s < now h := by
          have : s ≠ now h := fun e => y (by rw [e])
          omega
        refine m_isSafe (M.fr Fρ (by decide)) (O.fr Fρ (by decide) (by decide)) hw (Ld_pr hp z2) ⟨fun x => ⟨hin, nx ρ false Fρ Aρ ?_⟩, fun x => ⟨hin, nx ρ true Fρ Aρ ?_⟩⟩
        · rw [lM_b sn, x, Bool.and_false]
        · rw [lM_b sn, x, z2]; rfl
    rw [P_X7_findLeads_l15]
    refine ⟨fun z => absurd ((nI_ltI (by omega) (by omega)).mp z) (by omega), fun _ => ⟨fun z => ⟨hin, 5, ?_⟩, fun z => ⟨hin, 5, ?_⟩⟩⟩
    · have ne : s ≠ to := fun e => z (by rw [e])
      have A0 : ∀ k, k < s → gI (sI τ 56 (nI s).toNatClampNeg 0) 56 k = bI (lM h to k) := fun k hk => by rw [nI_clamp (by omega), gI_ne (by omega)]; exact A k hk
      have B0 : gI (sI τ 56 (nI s).toNatClampNeg 0) 56 s = bI false := by rw [nI_clamp (by omega), gI_eq]; rfl
      by_cases lt : to < s
      · exact m_leads39 hw G (by omega) lt fin 4 0 _ (by omega) (by omega) (F.sI rfl _ _) A0 B0
      · rw [P_X7_findLeads_l39]
        refine ⟨fun y => absurd y (by decide), fun _ => ⟨fun _ => fin _ (F.sI rfl _ _) A0 ?_, fun y => absurd (nI_le (by omega) (by omega)) y⟩⟩
        rw [B0, Ld_lt (by omega)]
    · have e : s = to := (nI_eq (by omega) (by omega)).mp z
      rw [P_X7_findLeads_l39]
      refine ⟨fun y => absurd y (by decide), fun _ => ⟨fun _ => fin _ (F.sI rfl _ _) (fun k hk => ?_) ?_, fun y => absurd (nI_le (by omega) (by omega)) y⟩⟩
      · rw [nI_clamp (by omega), gI_ne (by omega)]; exact A k hk
      · rw [nI_clamp (by omega), gI_eq, e, Ld_self]; rfl
theorem m_findLeads {σ : St} {h : MH} {to : Nat} (M : Ms σ 50 h) (hw : Wf h) (hp : prB h to = true) {Q : St → Prop} (hQ : ∀ τ, Fr inL σ τ → Mo τ h → (∀ s, s ≤ now h → gI τ 56 s = bI (lM h to s)) → Q τ) : P_X7_findLeads (nI to) σ Q := by
  unfold P_X7_findLeads
  refine m_findGoes M hw (fun τ F G => m_findTops (Ms55 M F) hw (fun ρ F2 O => m_standNow ((Ms55 M F).fr F2 (by decide)) hw ⟨now h + 2, ?_⟩))
  refine m_leads15 ((Ms55 M F).fr F2 (by decide)) O (G.fr F2 (by decide)) hw hp (fun π F3 L => hQ π ?_ (O.fr F3 (by decide) (by decide)) L) (now h + 1) 0 ρ (by omega) Fr.rf (fun k hk => by omega)
  exact ((F.mono (fun k (z : k = 55) => by omega)).tr (F2.mono (fun k z => by omega))).tr (F3.mono (fun k (z : k = 56) => by omega))
theorem m_firstFrom {σ : St} {h : MH} {to : Nat} (M : Ms σ 50 h) (O : Mo σ h) (hw : Wf h) (L : ∀ s, s ≤ now h → gI σ 56 s = bI (lM h to s)) {w : Nat} (h4 : w < 4) (hy : lp h to (now h) w = true) (hn : ∀ v, v < w → lp h to (now h) v = false) {Q : Int32 → Prop} (q : Q (nI w)) : P_X7_firstFrom (nI (now h)) σ Q := by
  have hnl := now_lt hw
  unfold P_X7_firstFrom
  refine ⟨w + 1, ?_⟩
  have head : ∀ n v, n + v = w → P_X7_firstFrom_l2 (nI (now h)) (fun k2 t40 => Q k2) Q (n + 1) (nI v) σ := by
    intro n
    induction n with
    | zero =>
      intro v e
      have e : v = w := by omega
      subst e
      obtain ⟨c1, c2, c3⟩ := lp_iff.mp hy
      have l0 := gs_lf c1
      have l8 := lf_lt (now h) v
      have h8 := (lf_sub hnl h4 l0 (v := 0) (by omega)).1
      have hp8 := p8_pos v
      rw [P_X7_firstFrom_l2, un_I h4, pk_sub h8, nI_clamp (by omega), L _ (by omega), lM_b (by omega), c2, c3]
      refine m_left hnl h4 ⟨fun z => absurd ((nI_eq (b := 0) (by omega) (by omega)).mp z) (by omega), fun _ => ⟨in_I (by omega) (by omega), fun z => absurd z (by decide), fun _ => m_canPull M O hw (prB_now hw) h4 ?_⟩⟩
      rw [c1, c2]
      exact bT' q
    | succ n ih =>
      intro v e
      have v4 : v < 4 := by omega
      have nx : P_X7_firstFrom_l2 (nI (now h)) (fun k2 t40 => Q k2) Q (n + 1) (nI v + 1) σ := by rw [nI_1]; exact ih (v + 1) (by omega)
      have l8 := lf_lt (now h) v
      rw [P_X7_firstFrom_l2, un_I v4]
      refine m_left hnl v4 ⟨fun _ => nx, fun z => ?_⟩
      have l0 : 0 < lf (now h) v := by
        rcases Nat.eq_zero_or_pos (lf (now h) v) with y | y
        · rw [y] at z; exact absurd rfl z
        · exact y
      have h8 := (lf_sub hnl v4 l0 (v := 0) (by omega)).1
      have hp8 := p8_pos v
      rw [pk_sub h8, nI_clamp (by omega), L _ (by omega), lM_b (by omega), bI_0]
      refine ⟨in_I (by omega) (by omega), fun _ => nx, fun y => m_canPull M O hw (prB_now hw) v4 ⟨fun x => ?_, fun _ => nx⟩⟩
      have y2 := Bool.and_eq_true_iff.mp (nf_ y)
      have x2 := Bool.and_eq_true_iff.mp x
      have := hn v (by omega)
      rw [lp_iff.mpr ⟨x2.1, x2.2, y2.1⟩] at this
      exact absurd this (by decide)
  exact head w 0 (by omega)
/-- the first wall that leads on, if one does -/
theorem lp_first {h : MH} {to a : Nat} (e : ∃ w, w < 4 ∧ lp h to a w = true) : ∃ w, w < 4 ∧ lp h to a w = true ∧ ∀ v, v < w → lp h to a v = false := by
  obtain ⟨w, c, m⟩ := pk_least (fun w => w < 4 ∧ lp h to a w = true) e
  refine ⟨w, c.1, c.2, fun v hv => ?_⟩
  cases q : lp h to a v
  · rfl
  · exact absurd ⟨by have := c.1; omega, q⟩ (m v hv)
theorem lp_uniq {h : MH} {to a v w : Nat} (v1 : lp h to a v = true) (v2 : ∀ u, u < v → lp h to a u = false) (w1 : lp h to a w = true) (w2 : ∀ u, u < w → lp h to a u = false) : v = w := by
  rcases Nat.lt_trichotomy v w with z | z | z
  · have := w2 v z; rw [v1] at this; exact absurd this (by decide)
  · exact z
  · have := v2 w z; rw [w1] at this; exact absurd this (by decide)
theorem pp_first {σ : St} (I : Inv σ) (p0 : Int32) : Same (P_X6_first p0 σ) (P_X7_first p0) := by
  have I0 := I
  obtain ⟨h, R, D⟩ := I
  obtain ⟨hw, hn, H, M, K⟩ := id R
  have hnl := now_lt hw
  unfold Same P_X6_first
  rcases sdc h p0 with ⟨s, rfl, hp⟩ | no
  · have hs := prB_le hp
    refine sd_y H hw hp (bT' (s_measure H hw (by omega) (fun τ F hV => s_lead hV hw hp (fun ρ F2 A => ?_))))
    have F3 : Fr sc σ ρ := (F.mono inS_sc).tr (F2.mono (fun k (z : k = 24) => by omega))
    have R3 : Re ρ h := R.fr (F3.mono (fun k z => by omega))
    have D3 : Fdd ρ := D.fr F3 (by decide) (by decide)
    have V3 := Sv24 hV F2
    have M3 := R3.2.2.2.1
    rw [V3.1]
    have esn : nI s = nI (now h) ↔ s = now h := nI_eq (by omega) (by omega)
    have none : (s = now h ∨ Ld h s (now h) = false) → P_X6_finding (-1000000004) ρ (fun r79 t79 => P_X7_first (nI s) t79 (fun r' τ' => r79 = r' ∧ Inv τ')) := by
      intro q
      refine badc R3 D3 (i := 3) (by omega) (by decide) (P2 := P_X7_first (nI s)) (fun θ Rθ X b => ?_)
      unfold P_X7_first
      refine sdm_y Rθ.2.2.2.1 hw hp (bT' (m_findLeads Rθ.2.2.2.1 hw hp (fun π Fπ O L => ?_)))
      have Rπ : Re π h := Rθ.fr (Fπ.mono (fun k z => by omega))
      have fb := b π Rπ (Fπ.mono inL_sc)
      refine m_standNow Rπ.2.2.2.1 hw ⟨fun _ => fb, fun z => m_standNow Rπ.2.2.2.1 hw ?_⟩
      rw [nI_clamp (by omega), L _ (Nat.le_refl _), bI_0]
      refine ⟨in_I (by omega) (by omega), fun y => absurd ?_ y, fun _ => fb⟩
      unfold lM
      rcases q with q | q
      · exact absurd (esn.mpr q) z
      · rw [q, Bool.false_and]
    refine ⟨fun z => ?_, fun z => none (Or.inl (esn.mp z))⟩
    have sn : s < now h := by
      have : s ≠ now h := fun e => z (esn.mpr e)
      omega
    refine s_leadFrom V3 hw (prB_now hw) (fun t ht => A t (by omega)) (fun q => ⟨fun y => absurd y (by decide), fun _ => none (Or.inr ?_)⟩) (fun w h4 c1 c2 => ⟨fun _ => ?_, fun y => absurd (nI_pos' (by omega)) y⟩)
    · cases e : Ld h s (now h)
      · rfl
      · obtain ⟨w, h4, c⟩ := (Ld_lp sn (prB_now hw)).mp e
        rw [q w h4] at c; exact absurd c (by decide)
    · have ld : Ld h s (now h) = true := (Ld_lp sn (prB_now hw)).mpr ⟨w, h4, c1⟩
      unfold P_X7_first
      refine sdm_y M3 hw hp (bT' (m_findLeads M3 hw hp (fun π Fπ O L => ?_)))
      have Rπ : Re π h := R3.fr (Fπ.mono (fun k z => by omega))
      have Mπ := Rπ.2.2.2.1
      refine m_standNow Mπ hw ⟨fun y => absurd y z, fun _ => m_standNow Mπ hw ?_⟩
      rw [nI_clamp (by omega), L _ (Nat.le_refl _), bI_0]
      refine ⟨in_I (by omega) (by omega), fun _ => m_standNow Mπ hw (m_firstFrom Mπ O hw L h4 c1 c2 ⟨rfl, ?_⟩), fun y => ?_⟩
      · exact (I0.fr F3).fr (Fπ.mono inL_sc)
      · unfold lM at y
        rw [ld, decide_eq_true rfl, Bool.true_or] at y
        exact absurd y (by decide)
  · refine sd_n H hw no (bF' (bad0 R D (P2 := P_X7_first p0) (fun τ Rτ X b => ?_)))
    unfold P_X7_first
    exact sdm_n Rτ.2.2.2.1 hw no (bF' (b _ Rτ Fr.rf))
