/-! READ -/
def okS (f : Nat → Int64) (Z : Nat) (h : MH) (u w : Nat) : Bool := decide (stn (now h) - stn u < Z ∧ f (stn (now h) - stn u) = (nI (coin h w (hC h w - lf u w))).toInt64)
def wsN (h : MH) (ok : Nat → Nat → Bool) (Z : Nat) : Nat → Nat
  | 0 => 0
  | k + 1 => wsN h ok Z k + if 0 < V h ok k ∧ stn (now h) - stn k = Z then V h ok k else 0
theorem s_tells {τ : St} {a Z : Nat} {f : Nat → Int64} {h : MH} (hZ : Z ≤ 40) (e2 : gI τ a 2 = nI Z) (ef : ∀ j, j < 40 → gL τ (a + 1) j = f j) {u w : Nat} {Q : Bool → Prop} (q : Q (okS f Z h u w)) : P_X2_tells a (nI (stn (now h) - stn u)) (nI (coin h w (hC h w - lf u w))) τ Q := by
  have s28 := stn_le (now h)
  unfold P_X2_tells
  rw [e2, nI_clamp (by omega), lg_cmp_eq, nI_leI (by omega) (by omega)]
  unfold okS at q
  refine ⟨fun z => ?_, fun z => ⟨in_I (by omega) (by omega), ?_⟩⟩
  · rw [decide_eq_false (fun c => by have := c.1; omega)] at q; exact q
  · rw [ef _ (by omega)]
    refine ⟨fun y => ?_, fun y => ?_⟩
    · rw [decide_eq_false (fun c => y c.2)] at q; exact q
    · rw [decide_eq_true ⟨by omega, y⟩] at q; exact q
theorem s_waysBy {τ : St} {h : MH} {ok : Nat → Nat → Bool} {Z : Nat} (hw : Wf h) (hV : Sv τ 19 h) (W : ∀ s, s ≤ now h → gL τ 24 s = lN (V h ok s)) (hZ : Z ≤ 28) {Q : Int64 → Prop} (q : Q (lN (wsN h ok Z (now h + 1)))) : P_X1_waysBy 19 (nI Z) τ Q := by
  have hn := now_lt hw
  have s28 := stn_le (now h)
  unfold P_X1_waysBy
  refine ⟨now h + 2, ?_⟩
  have head : ∀ n k, n = now h + 1 - k → k ≤ now h + 1 → P_X1_waysBy_l5 19 (nI Z) (fun k3 t52 => Q k3) Q (n + 1) (lN (wsN h ok Z k)) (nI k) τ := by
    intro n
    induction n with
    | zero =>
      intro k hk hk2
      have e : k = now h + 1 := by omega
      subst e
      rw [P_X1_waysBy_l5, hV.1]
      exact ⟨fun _ => q, fun z => absurd (nI_lt (by omega) (by omega)) z⟩
    | succ n ih =>
      intro k hk hk2
      have key := ih (k + 1) (by omega) (by omega)
      rw [show wsN h ok Z (k + 1) = wsN h ok Z k + if 0 < V h ok k ∧ stn (now h) - stn k = Z then V h ok k else 0 from rfl] at key
      rw [P_X1_waysBy_l5, hV.1, nI_clamp (by omega), W k (by omega), lgc_pos (V_lt hw k), nI_1, lN_add]
      refine ⟨fun z => absurd ((nI_ltI (by omega) (by omega)).mp z) (by omega), fun _ => ⟨in_I (by omega) (by omega), fun z => ?_, fun z => s_pulledAt hV hw (V_pr (ok := ok) hw (by omega)) ?_⟩⟩
      · rw [if_neg (by omega), Nat.add_zero] at key; exact key
      · rw [nI_eq (by omega) (by omega)]
        refine ⟨fun y => ?_, fun y => ⟨in_I (by omega) (by omega), ?_⟩⟩
        · rw [if_neg (by omega), Nat.add_zero] at key; exact key
        · rw [if_pos ⟨by omega, y⟩] at key; exact key
  exact head (now h + 1) 0 (by omega) (by omega)
theorem m_read142 {σ : St} {h : MH} {s Z a : Nat} {f : Nat → Int64} {l3 : Int32} {l4 : Int64} (hw : Wf h) (M : Ms σ 50 h) (O : Mo σ h) (h4 : s < 4) (hZ : Z ≤ 28) (ef : ∀ j, j < 40 → gL σ 61 (40 * s + j) = f j) (hp : prB h a = true) (hpos : 0 < V h (okS f Z h) a) (hlt : stn (now h) - stn a < Z) {K : St → Prop} {Q : Int64 → St → Prop}
    (kk : ∀ τ, Fr (isC 54) σ τ → AR2 τ 54 h (okS f Z h) a → K τ) : ∀ n v τ, n = 4 - v → v ≤ 4 → Fr (isC 54) σ τ → AI2 τ 54 h (okS f Z h) a v → P_X7_read_l142 (nI s) (nI Z) l3 l4 (nI a) (nI (stn (now h) - stn a)) K Q (n + 1) (nI v) τ := by
  have hn := now_lt hw
  have ha := prB_le hp
  have s28 := stn_le (now h)
  intro n
  induction n with
  | zero =>
    intro v τ hn4 hv F A
    have e : v = 4 := by omega
    subst e
    rw [P_X7_read_l142]
    exact ⟨fun _ => kk τ F (AI2_end A), fun z => absurd (nI_le (a := 4) (b := 4) (by omega) (by omega)) z⟩
  | succ n ih =>
    intro v τ hn4 hv F A
    have h4v : v < 4 := by omega
    have hlc := (prB_iff.mp hp).2 v h4v
    have c7 := (hw.1 v h4v).1
    have M1 := M.fr F (by decide)
    have O1 := O.fr F (by decide) (by decide)
    rw [P_X7_read_l142, nI_clamp (n := a) (by omega), A.1 a (by omega) ha, lgc_pos (V_lt hw a), un_I h4v, nI_1, e40, nI_clamp (n := 40 * s + (stn (now h) - stn a)) (by omega), F.l (k := 61) (by decide), ef _ (by omega)]
    refine ⟨fun z => absurd ((nI_leI (a := 4) (by omega) (by omega)).mp z) (by omega), fun _ => ⟨fun z => absurd ((nI_leI (by omega) (by omega)).mp z) (by omega), fun _ => ⟨in_I (by omega) (by omega), fun z => by omega, fun _ => m_canPull M1 O1 hw hp h4v ⟨fun y => ?_, fun y => ?_⟩⟩⟩⟩
    · refine ih (v + 1) τ (by omega) (by omega) F ?_
      cases g : gs h a v
      · exact AI2_skip A (by unfold ed; rw [g, Bool.and_false, Bool.false_and])
      · rw [g, Bool.true_and] at y; exact AI2_uns A ha y
    · rw [Bool.and_eq_true] at y
      have hl := gs_lf y.1
      refine m_many M1 h4v (m_left (by omega) h4v ?_)
      rw [pk_sub hlc]
      refine m_coin M1 hw h4v (by omega) ⟨in_I (by omega) (by omega), ?_⟩
      rw [lg_cmp_eq]
      refine ⟨fun q => ?_, fun q => ?_⟩
      · refine ih (v + 1) τ (by omega) (by omega) F (AI2_skip A ?_)
        unfold ed okS
        rw [decide_eq_false (fun c => q c.2.symm), Bool.and_false]
      · have ez : ed h (okS f Z h) a v = true := ed_iff.mpr ⟨hp, y.1, by unfold okS; exact decide_eq_true ⟨hlt, q.symm⟩⟩
        have h8 := ed_8 h4v ez
        have hp8 := p8_pos v
        rw [pk_sub h8, nI_clamp (by omega)]
        have hin2 : vp_in (nI (a - 8 ^ v)) 4096 := in_I (by omega) (by omega)
        have A2 := AI2_push A h4v ez y.2
        rw [A.1 a (by omega) ha] at A2
        exact ⟨hin2, in_I (by omega) (by omega), hin2, ih (v + 1) _ (by omega) (by omega) (F.sL rfl _ _) A2⟩
