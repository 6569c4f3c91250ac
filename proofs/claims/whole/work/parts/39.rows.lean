/-! THE REFERENCE'S ROWS -/
abbrev okT : Nat → Nat → Bool := fun _ _ => true
theorem edT {h : MH} {u w : Nat} : ed h okT u w = (prB h u && gs h u w) := by unfold ed; rw [Bool.and_true]
/-- the walls out of which a stone may go, as bits, of those below v -/
def gb (h : MH) (s : Nat) : Nat → Nat
  | 0 => 0
  | v + 1 => gb h s v + if ed h okT s v = true then 2 ^ v else 0
theorem gb_lt {h : MH} {s : Nat} (v : Nat) : gb h s v < 2 ^ v := by
  induction v with
  | zero => simp [gb]
  | succ v ih => simp only [gb, Nat.pow_succ]; split <;> omega
theorem gb_or : ∀ v, v < 4 → ∀ g, g < 2 ^ v → (nI g ||| ((1 : Int32) <<< (nI v &&& 31))) = nI (g + 2 ^ v) := by decide +kernel
theorem gb_bit : ∀ v, v < 4 → ∀ g, g < 16 → ((((nI g) >>> (nI v &&& 31)) &&& 1 = (1 : Int32)) ↔ g.testBit v = true) := by decide +kernel
theorem gb_4 {h : MH} {s v : Nat} (h4 : v < 4) : (gb h s 4).testBit v = ed h okT s v := by
  simp only [gb]
  generalize e0 : ed h okT s 0 = b0
  generalize e1 : ed h okT s 1 = b1
  generalize e2 : ed h okT s 2 = b2
  generalize e3 : ed h okT s 3 = b3
  rcases w4 h4 with rfl | rfl | rfl | rfl
  · rw [e0]; clear e0 e1 e2 e3; revert b0 b1 b2 b3; decide
  · rw [e1]; clear e0 e1 e2 e3; revert b0 b1 b2 b3; decide
  · rw [e2]; clear e0 e1 e2 e3; revert b0 b1 b2 b3; decide
  · rw [e3]; clear e0 e1 e2 e3; revert b0 b1 b2 b3; decide
theorem go_bit {h : MH} {s v : Nat} (h4 : v < 4) : (((nI (gb h s 4)) >>> (nI v &&& 31)) &&& 1 = (1 : Int32)) ↔ ed h okT s v = true := by
  rw [gb_bit v h4 _ (gb_lt 4), gb_4 h4]
def Go (σ : St) (h : MH) : Prop := ∀ s, s ≤ now h → gI σ 55 s = nI (gb h s 4)
theorem Go.fr {σ τ : St} {h : MH} {S : Nat → Prop} (H : Go σ h) (F : Fr S σ τ) (h2 : ¬ S 55) : Go τ h := fun s hs => by rw [F.i h2]; exact H s hs
theorem Ms55 {σ τ : St} {h : MH} (M : Ms σ 50 h) (F : Fr (isC 55) σ τ) : Ms τ 50 h := M.fr F (by decide)
theorem m_findGoes19 {σ : St} {h : MH} (M : Ms σ 50 h) (hw : Wf h) {s : Nat} (hs : s ≤ now h) {K Q : St → Prop}
    (kk : ∀ τ, Fr (isC 55) σ τ → (∀ k, k < s → gI τ 55 k = nI (gb h k 4)) → gI τ 55 s = nI (gb h s 4) → K τ) : ∀ (n v : Nat) (τ : St), n = 4 - v → v ≤ 4 → Fr (isC 55) σ τ → (∀ k, k < s → gI τ 55 k = nI (gb h k 4)) → gI τ 55 s = nI (gb h s v) → P_X7_findGoes_l19 (nI s) K Q (n + 1) (nI v) τ := by
  have hn := now_lt hw
  intro n
  induction n with
  | zero =>
    intro v τ hn4 hv F A B
    have e : v = 4 := by omega
    subst e
    rw [P_X7_findGoes_l19]
    exact ⟨fun _ => kk τ F A B, fun z => absurd (nI_le (a := 4) (b := 4) (by omega) (by omega)) z⟩
  | succ n ih =>
    intro v τ hn4 hv F A B
    have h4 : v < 4 := by omega
    have skip : ed h okT s v = false → P_X7_findGoes_l19 (nI s) K Q (n + 1) (nI v + 1) (sI τ 55 ((nI s).toNatClampNeg) ((gI τ 55 (nI s).toNatClampNeg) ||| 0)) := by
      intro z
      rw [nI_clamp (by omega), nI_1, B, Int32.or_zero]
      refine ih (v + 1) _ (by omega) (by omega) (F.sI rfl _ _) (fun k hk => ?_) ?_
      · rw [gI_ne (by omega)]; exact A k hk
      · rw [gI_eq]; simp only [gb]; rw [if_neg (by rw [z]; decide), Nat.add_zero]
    have push : ed h okT s v = true → P_X7_findGoes_l19 (nI s) K Q (n + 1) (nI v + 1) (sI τ 55 ((nI s).toNatClampNeg) ((gI τ 55 (nI s).toNatClampNeg) ||| (1 <<< (nI v &&& 31)))) := by
      intro z
      rw [nI_clamp (by omega), nI_1, B, gb_or v h4 _ (gb_lt v)]
      refine ih (v + 1) _ (by omega) (by omega) (F.sI rfl _ _) (fun k hk => ?_) ?_
      · rw [gI_ne (by omega)]; exact A k hk
      · rw [gI_eq]; simp only [gb]; rw [if_pos z]
    have hin : vp_in (nI s) 4096 := in_I (by omega) (by omega)
    rw [P_X7_findGoes_l19]
    refine ⟨fun z => absurd ((nI_leI (a := 4) (by omega) (by omega)).mp z) (by omega), fun _ => m_isStand (Ms55 M F) hw ?_ ?_⟩
    · intro s' e hp
      have e2 : s = s' := (nI_eq (by omega) (by have := (prB_iff.mp hp).1; omega)).mp e
      subst e2
      have hlc := (prB_iff.mp hp).2 v h4
      have hl8 := lf_lt s v
      have hc7 := (hw.1 v h4).1
      refine ⟨fun z => absurd z (by decide), fun _ => m_left (by omega) h4 ⟨hin, fun z => ⟨hin, skip ?_⟩, fun z => m_many (Ms55 M F) h4 ?_⟩⟩
      · have : lf s v ≤ 0 := (nI_leI (b := 0) (by omega) (by omega)).mp z
        rw [edT]; unfold gs
        rw [show decide (0 < lf s v) = false from decide_eq_false (by omega), Bool.false_and, Bool.and_false]
      · have hl : 0 < lf s v := by
          rcases Nat.eq_zero_or_pos (lf s v) with q | q
          · rw [q] at z; exact absurd (by decide) z
          · exact q
        rw [pk_sub hlc]
        have eg : ed h okT s v = mgK (hK h v (hC h v - lf s v)) v s := by
          rw [edT, hp, Bool.true_and]; unfold gs
          rw [show decide (0 < lf s v) = true from decide_eq_true hl, Bool.true_and]
        refine m_mayGo (Ms55 M F) hw h4 (by omega) (by omega) ⟨fun y => ⟨hin, skip (eg.trans y)⟩, fun y => ⟨hin, push (eg.trans y)⟩⟩
    · intro no
      refine ⟨fun _ => kk τ F A ?_, fun z => absurd z (by decide)⟩
      have np : prB h s = false := by
        cases q : prB h s
        · rfl
        · exact absurd (no s rfl q) id
      have ez : ∀ u, ed h okT s u = false := fun u => by rw [edT, np, Bool.false_and]
      have gz : ∀ v, gb h s v = 0 := by
        intro v
        induction v with
        | zero => rfl
        | succ v ih => simp only [gb]; rw [ih, if_neg (by rw [ez]; decide)]
      rw [B, gz, gz]
theorem m_findGoes {σ : St} {h : MH} (M : Ms σ 50 h) (hw : Wf h) {Q : St → Prop} (hQ : ∀ τ, Fr (isC 55) σ τ → Go τ h → Q τ) : P_X7_findGoes σ Q := by
  have hn := now_lt hw
  unfold P_X7_findGoes
  refine ⟨now h + 2, ?_⟩
  have head : ∀ n s τ, n = now h + 1 - s → s ≤ now h + 1 → Fr (isC 55) σ τ → (∀ k, k < s → gI τ 55 k = nI (gb h k 4)) → P_X7_findGoes_l2 (fun t86 => Q t86) Q (n + 1) (nI s) τ := by
    intro n
    induction n with
    | zero =>
      intro s τ hs hs2 F A
      rw [P_X7_findGoes_l2]
      refine m_standNow (Ms55 M F) hw ⟨fun _ => hQ τ F (fun k hk => A k (by omega)), fun z => absurd (nI_lt (by omega) (by omega)) z⟩
    | succ n ih =>
      intro s τ hs hs2 F A
      rw [P_X7_findGoes_l2]
      refine m_standNow (Ms55 M F) hw ⟨fun z => absurd ((nI_ltI (by omega) (by omega)).mp z) (by omega), fun _ => ⟨in_I (by omega) (by omega), 5, ?_⟩⟩
      rw [nI_clamp (by omega)]
      refine m_findGoes19 M hw (s := s) (by omega) ?_ 4 0 _ (by omega) (by omega) (F.sI rfl _ _) (fun k hk => ?_) ?_
      · intro ρ Fρ Aρ Bρ
        rw [nI_1]
        refine ih (s + 1) ρ (by omega) (by omega) Fρ (fun k hk => ?_)
        by_cases e : k = s
        · rw [e]; exact Bρ
        · exact Aρ k (by omega)
      · rw [gI_ne (by omega)]; exact A k hk
      · rw [gI_eq]; rfl
  exact head (now h + 1) 0 σ (by omega) (by omega) Fr.rf (fun k hk => by omega)
/-- what countRows and its like write -/
abbrev inR : Nat → Prop := fun k => k = 52 ∨ k = 53 ∨ k = 54
theorem m_count75 {σ : St} {h : MH} (hw : Wf h) (G : Go σ h) {a : Nat} (ha : a ≤ now h) {l1 : Int32} {K Q : St → Prop}
    (kk : ∀ τ, Fr (isC 54) σ τ → AR τ 54 h okT a → K τ) : ∀ (n v : Nat) (τ : St), n = 4 - v → v ≤ 4 → Fr (isC 54) σ τ → AI τ 54 h okT a v → 0 < V h okT a → P_X7_countRows_l75 l1 (nI a) K Q (n + 1) (nI v) τ := by
  have hn := now_lt hw
  intro n
  induction n with
  | zero =>
    intro v τ hn hv F A hpos
    have e : v = 4 := by omega
    subst e
    rw [P_X7_countRows_l75]
    exact ⟨fun _ => kk τ F (AI_end A), fun z => absurd (nI_le (a := 4) (b := 4) (by omega) (by omega)) z⟩
  | succ n ih =>
    intro v τ hn4 hv F A hpos
    have h4 : v < 4 := by omega
    have hin : vp_in (nI a) 4096 := in_I (by omega) (by omega)
    rw [P_X7_countRows_l75, nI_clamp (by omega), A.1 a (by omega) ha, lgc_pos (V_lt hw a), (G.fr F (by decide)) a ha, go_bit h4, un_I h4, nI_1]
    refine ⟨fun z => absurd ((nI_leI (a := 4) (by omega) (by omega)).mp z) (by omega), fun _ => ⟨hin, fun z => by omega, fun _ => ⟨hin, fun z => ?_, fun z => ?_⟩⟩⟩
    · exact ih (v + 1) τ (by omega) (by omega) F (AI_skip A (by cases q : ed h okT a v; rfl; exact absurd q z)) hpos
    · have h8 := ed_8 h4 z
      have hp8 := p8_pos v
      rw [pk_sub h8, nI_clamp (by omega)]
      have hin2 : vp_in (nI (a - 8 ^ v)) 4096 := in_I (by omega) (by omega)
      have A2 := AI_push A h4 z
      rw [A.1 a (by omega) ha] at A2
      exact ⟨hin2, hin, hin2, ih (v + 1) _ (by omega) (by omega) (F.sL rfl _ _) A2 hpos⟩
theorem m_count75z {h : MH} (hw : Wf h) {a : Nat} (ha : a ≤ now h) {l1 : Int32} {K Q : St → Prop} {τ : St} (z : gL τ 54 a = lN 0) (kk : K τ) : ∃ m, P_X7_countRows_l75 l1 (nI a) K Q m 0 τ := by
  have hn := now_lt hw
  refine ⟨1, ?_⟩
  rw [P_X7_countRows_l75, nI_clamp (by omega), z, lgc_pos (by omega)]
  exact ⟨fun _ => kk, fun _ => ⟨in_I (by omega) (by omega), fun _ => kk, fun y => absurd rfl y⟩⟩
theorem m_count38 {σ : St} {h : MH} (M : Ms σ 50 h) (O : Mo σ h) (G : Go σ h) (hw : Wf h) {K Q : St → Prop}
    (kk : ∀ τ, Fr (isC 54) σ τ → (∀ s, s ≤ now h → gL τ 54 s = lN (V h okT s)) → K τ) : ∀ (k : Nat) (τ : St), k ≤ now h + 1 → Fr (isC 54) σ τ → AR τ 54 h okT k → P_X7_countRows_l38 (nI (now h)) K Q (k + 1) (nI k - 1) τ := by
  have hn := now_lt hw
  intro k
  induction k with
  | zero =>
    intro τ hk F A
    rw [P_X7_countRows_l38]
    exact ⟨fun _ => kk τ F (fun s hs => A.1 s (by omega) hs), fun z => absurd (by decide) z⟩
  | succ a ih =>
    intro τ hk F A
    have hin : vp_in (nI a) 4096 := in_I (by omega) (by omega)
    rw [P_X7_countRows_l38, nI_pred, nI_clamp (n := a) (by omega), AR_at A, lgc_pos (B_lt hw a), show nI a + (-1) = nI a - 1 from (Int32.sub_eq_add_neg _ _).symm]
    have inner : 0 < Bv h okT a → V h okT a = Bv h okT a → ∃ m75, P_X7_countRows_l75 (nI (now h)) (nI a) (fun t132 => P_X7_countRows_l38 (nI (now h)) K Q (a + 1) (nI a - 1) t132) Q m75 0 τ := by
      intro e0 e
      exact ⟨5, m_count75 hw G (by omega) (fun ρ Fρ Aρ => ih ρ (by omega) Fρ Aρ) 4 0 τ (by omega) (by omega) F (AR_in A e) (by omega)⟩
    refine ⟨fun z => absurd z (nI_pos (by omega)), fun _ => ⟨hin, fun z => ?_, fun z => ⟨fun e => inner (by omega) ?_, fun e => ?_⟩⟩⟩
    · have e0 : V h okT a = 0 := by have := V_leB (h := h) (ok := okT) a; omega
      exact m_count75z hw (by omega) (by rw [AR_at A, z]) (ih τ (by omega) F (AI_none (AR_in A (by omega)) e0))
    · rw [V_B, if_pos (Or.inl ((nI_eq (by omega) (by omega)).mp e))]
    · have hp : prB h a = true := B_pr (ok := okT) hw (by omega)
      refine m_isSafe (M.fr F (by decide)) (O.fr F (by decide) (by decide)) hw hp ⟨fun y => inner (by omega) ?_, fun y => ⟨hin, ?_⟩⟩
      · rw [V_B, if_pos (Or.inr y)]
      · have e0 : V h okT a = 0 := by
          rw [V_B, if_neg]
          rintro (q | q)
          · exact e (by rw [q])
          · rw [y] at q; exact absurd q (by decide)
        exact m_count75z hw (by omega) (by rw [gL_eq]; rfl) (ih _ (by omega) (F.sL rfl _ _) (AI_none (AR_un A e0) e0))
theorem m_zero {h : MH} (hw : Wf h) {σ : St} {K Q : St → Prop} (kk : ∀ τ, Fr (isC 54) σ τ → (∀ s, s ≤ now h → gL τ 54 s = 0) → K τ) : ∃ m, P_X7_countRows_l11 (nI (now h)) K Q m 0 σ := by
  have hn := now_lt hw
  refine ⟨now h + 2, ?_⟩
  have head : ∀ n s τ, n = now h + 1 - s → s ≤ now h + 1 → Fr (isC 54) σ τ → (∀ k, k < s → gL τ 54 k = 0) → P_X7_countRows_l11 (nI (now h)) K Q (n + 1) (nI s) τ := by
    intro n
    induction n with
    | zero =>
      intro s τ hs hs2 F A
      rw [P_X7_countRows_l11]
      exact ⟨fun _ => kk τ F (fun k hk => A k (by omega)), fun z => absurd (nI_lt (by omega) (by omega)) z⟩
    | succ n ih =>
      intro s τ hs hs2 F A
      rw [P_X7_countRows_l11]
      refine ⟨fun z => absurd ((nI_ltI (by omega) (by omega)).mp z) (by omega), fun _ => ⟨in_I (by omega) (by omega), ?_⟩⟩
      rw [nI_clamp (by omega), nI_1]
      refine ih (s + 1) _ (by omega) (by omega) (F.sL rfl _ _) (fun k hk => ?_)
      by_cases e : k = s
      · rw [e, gL_eq]
      · rw [gL_ne (by omega)]; exact A k (by omega)
  exact head (now h + 1) 0 σ (by omega) (by omega) Fr.rf (fun k hk => by omega)
/-- the rows are there -/
def Ro (σ : St) (h : MH) : Prop := ∀ s, s ≤ now h → gL σ 54 s = lN (V h okT s)
theorem Ro.fr {σ τ : St} {h : MH} {S : Nat → Prop} (H : Ro σ h) (F : Fr S σ τ) (h2 : ¬ S 54) : Ro τ h := fun s hs => by rw [F.l h2]; exact H s hs
theorem m_countRows {σ : St} {h : MH} (M : Ms σ 50 h) (G : Go σ h) (hw : Wf h) {Q : St → Prop} (hQ : ∀ τ, Fr inR σ τ → Mo τ h → Ro τ h → Q τ) : P_X7_countRows σ Q := by
  have hn := now_lt hw
  unfold P_X7_countRows
  refine m_findTops M hw (fun τ F O => m_standNow (M.fr F (by decide)) hw (m_zero hw (fun ρ Fρ A => ⟨in_I (by omega) (by omega), now h + 2, ?_⟩)))
  have F2 : Fr (isC 54) τ (sL ρ 54 (now h) 1) := Fρ.sL rfl _ _
  rw [nI_clamp (by omega)]
  have key := m_count38 (K := fun t138 => Q t138) (Q := Q) (M := (M.fr F (by decide)).fr F2 (by decide)) (O := O.fr F2 (by decide) (by decide)) (G := (G.fr F (by decide)).fr F2 (by decide)) hw (fun π Fπ Aπ => hQ π (((F.mono (fun k z => by rcases z with z | z; exact Or.inl z; exact Or.inr (Or.inl z))).tr (F2.mono (fun k z => Or.inr (Or.inr z)))).tr (Fπ.mono (fun k z => Or.inr (Or.inr z)))) ((O.fr F2 (by decide) (by decide)).fr Fπ (by decide) (by decide)) Aπ) (now h + 1) (sL ρ 54 (now h) 1) (by omega) Fr.rf (AR_0 (fun s hs => ?_))
  · rw [nI_pred] at key; exact key
  · by_cases e : s = now h
    · rw [e, gL_eq, if_pos rfl]
    · rw [gL_ne (by omega), if_neg e]; exact A s hs
abbrev inF : Nat → Prop := fun k => 52 ≤ k ∧ k ≤ 55
theorem m_findRows {σ : St} {h : MH} (M : Ms σ 50 h) (hw : Wf h) {Q : St → Prop} (hQ : ∀ τ, Fr inF σ τ → Mo τ h → Go τ h → Ro τ h → Q τ) : P_X7_findRows σ Q := by
  unfold P_X7_findRows
  refine m_findGoes M hw (fun τ F G => m_countRows (Ms55 M F) G hw (fun ρ Fρ O R => hQ ρ ((F.mono (fun k (z : k = 55) => ⟨by omega, by omega⟩)).tr (Fρ.mono (fun k z => ⟨by omega, by omega⟩))) O (G.fr Fρ (by decide)) R))
