/-! CHANGES OF THE REFERENCE'S ROW -/
theorem m_addStone {σ : St} {h : MH} (M : Ms σ 50 h) (hw : Wf h) {k w x p : Nat} (h4 : w < 4) (hc : hC h w < 7) {Q : St → Prop} (hQ : ∀ τ, Fr (isC 50) σ τ → Ms τ 50 (hput h k w x p) → Q τ) : P_X7_addStone (nI k) (nI w) (nI x) (nI p) σ Q := by
  unfold P_X7_addStone
  have hin : ∀ j, j < 3 → vp_in (nI (23 * w + 2 + 3 * hC h w + j)) 96 := fun j hj => in_I (by omega) (by omega)
  have e23 : ((23 : Int32) * nI w) + 0 = nI (23 * w) := by rw [show (23 : Int32) = nI 23 from rfl, pk_mul, Int32.add_zero]
  refine m_many M h4 (m_at (j := 0) ⟨hin 0 (by omega), m_at (j := 1) ⟨hin 1 (by omega), fun s32 e32 => m_at (j := 2) ⟨hin 2 (by omega), ?_⟩⟩⟩)
  rw [e23, nI_clamp (n := 23 * w) (by omega), nI_clamp (by omega)]
  rw [nI_clamp (by omega), nI_clamp (by omega), Nat.add_zero] at e32
  refine ⟨in_I (by omega) (by omega), in_I (by omega) (by omega), ?_⟩
  have e4 : gI (sI s32 50 (23 * w + 2 + 3 * hC h w + 2) (nI p)) 50 (23 * w) + 1 = nI (hC h w + 1) := by
    rw [e32, gI_ne (by omega), gI_ne (by omega), gI_ne (by omega), (M.1 w h4).1, nI_1]
  rw [e4, e32]
  obtain ⟨H1, H2, H3, H4, H5⟩ := M
  refine hQ _ (((((Fr.rf (S := isC 50)).sI rfl _ _).sI rfl _ _).sI rfl _ _).sI rfl _ _) ⟨fun v hv => ?_, ?_, ?_, ?_, ?_⟩
  · have v7 := (hw.1 v hv).1
    obtain ⟨g1, g2, g3⟩ := H1 v hv
    refine ⟨?_, ?_, fun i hi => ?_⟩
    · show _ = nI (if v = w then hC h v + 1 else hC h v)
      by_cases e : v = w
      · subst e; rw [gI_eq, if_pos rfl]
      · rw [if_neg e, gI_ne (by omega), gI_ne (by omega), gI_ne (by omega), gI_ne (by omega)]; exact g1
    · rw [gI_ne (by omega), gI_ne (by omega), gI_ne (by omega), gI_ne (by omega)]; exact g2
    · replace hi : i < (if v = w then hC h v + 1 else hC h v) := hi
      show _ = nI (if v = w ∧ i = hC h w then k else hK h v i) ∧ _ = nI (if v = w ∧ i = hC h w then x else hH h v i) ∧ _ = nI (if v = w ∧ i = hC h w then p else hP h v i)
      by_cases e : v = w ∧ i = hC h w
      · obtain ⟨e1, e2⟩ := e
        subst e1; subst e2
        rw [if_pos ⟨rfl, rfl⟩, if_pos ⟨rfl, rfl⟩, if_pos ⟨rfl, rfl⟩]
        refine ⟨?_, ?_, ?_⟩
        · rw [gI_ne (by omega), gI_ne (by omega), gI_ne (by omega), gI_eq]
        · rw [gI_ne (by omega), gI_ne (by omega), gI_eq]
        · rw [gI_ne (by omega), gI_eq]
      · have hi2 : i < hC h v := by
          by_cases e2 : v = w
          · subst e2; rw [if_pos rfl] at hi; have : ¬ i = hC h v := fun z => e ⟨rfl, z⟩; omega
          · rw [if_neg e2] at hi; exact hi
        rw [if_neg e, if_neg e, if_neg e]
        obtain ⟨f1, f2, f3⟩ := g3 i hi2
        have ne : v = w → i < hC h w := fun z => by subst z; exact hi2
        refine ⟨?_, ?_, ?_⟩
        · rw [gI_ne (by omega), gI_ne (by omega), gI_ne (by omega), gI_ne (by omega)]; exact f1
        · rw [gI_ne (by omega), gI_ne (by omega), gI_ne (by omega), gI_ne (by omega)]; exact f2
        · rw [gI_ne (by omega), gI_ne (by omega), gI_ne (by omega), gI_ne (by omega)]; exact f3
  · rw [gI_ne (by omega), gI_ne (by omega), gI_ne (by omega), gI_ne (by omega)]; exact H2
  · rw [gI_ne (by omega), gI_ne (by omega), gI_ne (by omega), gI_ne (by omega)]; exact H3
  · rw [gI_ne (by omega), gI_ne (by omega), gI_ne (by omega), gI_ne (by omega)]; exact H4
  · rw [gI_ne (by omega), gI_ne (by omega), gI_ne (by omega), gI_ne (by omega)]; exact H5
theorem m_takeOut {σ : St} {h : MH} (M : Ms σ 50 h) (hw : Wf h) {w : Nat} (h4 : w < 4) (h0 : 0 < hC h w) {Q : St → Prop} (hQ : ∀ τ, Fr (isC 50) σ τ → Ms τ 50 (htake h w) → Q τ) : P_X7_takeOut (nI w) σ Q := by
  have c7 := (hw.1 w h4).1
  have hcl := coin_le hw h4 h0
  have hu := hw.2.2.2.2
  have e23 : ((23 : Int32) * nI w) + 0 = nI (23 * w) := by rw [show (23 : Int32) = nI 23 from rfl, pk_mul, Int32.add_zero]
  -- the loop, from a row whose purse is paid and whose count is one less
  have loop : ∀ (ρ : St), Fr (isC 50) σ ρ → gI ρ 50 95 = nI (min 999999 (hU h + coin h w 0)) → gI ρ 50 (23 * w) = nI (hC h w - 1) → (∀ j, j ≠ 95 → j ≠ 23 * w → gI ρ 50 j = gI σ 50 j) →
      ∃ m51, P_X7_takeOut_l51 (nI w) (fun t96 => Q t96) Q m51 0 ρ := by
    intro ρ Fρ r95 rc ro
    refine ⟨3 * (hC h w - 1) + 1, ?_⟩
    have head : ∀ n k τ, n = 3 * (hC h w - 1) - k → k ≤ 3 * (hC h w - 1) → Fr (isC 50) σ τ → (∀ j, j < k → gI τ 50 (23 * w + 2 + j) = gI ρ 50 (23 * w + 2 + 3 + j)) → (∀ j, ¬ (23 * w + 2 ≤ j ∧ j < 23 * w + 2 + k) → gI τ 50 j = gI ρ 50 j) →
        P_X7_takeOut_l51 (nI w) (fun t96 => Q t96) Q (n + 1) (nI k) τ := by
      intro n
      induction n with
      | zero =>
        intro k τ hn hk F A B
        have hkk : k = 3 * (hC h w - 1) := by omega
        have ec : gI τ 50 (23 * w) = nI (hC h w - 1) := by rw [B _ (by omega), rc]
        rw [P_X7_takeOut_l51]
        unfold P_X7_many
        rw [e23, nI_clamp (by omega), ec]
        dsimp only
        rw [show (3 : Int32) * nI (hC h w - 1) = nI (3 * (hC h w - 1)) from pk_mul 3 _]
        refine ⟨in_I (by omega) (by omega), fun _ => hQ τ F ?_, fun z => absurd (nI_le (by omega) (by omega)) z⟩
        obtain ⟨H1, H2, H3, H4, H5⟩ := M
        refine ⟨fun v hv => ?_, ?_, ?_, ?_, ?_⟩
        · have v7 := (hw.1 v hv).1
          obtain ⟨g1, g2, g3⟩ := H1 v hv
          refine ⟨?_, ?_, fun i hi => ?_⟩
          · show _ = nI (if v = w then hC h v - 1 else hC h v)
            by_cases e : v = w
            · subst e; rw [if_pos rfl]; exact ec
            · rw [if_neg e, B _ (by omega), ro _ (by omega) (by omega)]; exact g1
          · rw [B _ (by omega), ro _ (by omega) (by omega)]; exact g2
          · replace hi : i < (if v = w then hC h v - 1 else hC h v) := hi
            show _ = nI (if v = w then hK h v (i + 1) else hK h v i) ∧ _ = nI (if v = w then hH h v (i + 1) else hH h v i) ∧ _ = nI (if v = w then hP h v (i + 1) else hP h v i)
            by_cases e : v = w
            · subst e
              rw [if_pos rfl] at hi
              rw [if_pos rfl, if_pos rfl, if_pos rfl]
              obtain ⟨f1, f2, f3⟩ := g3 (i + 1) (by omega)
              refine ⟨?_, ?_, ?_⟩
              · rw [A (3 * i) (by omega), ro _ (by omega) (by omega), show 23 * v + 2 + 3 + 3 * i = 23 * v + 2 + 3 * (i + 1) by omega]; exact f1
              · rw [show 23 * v + 2 + 3 * i + 1 = 23 * v + 2 + (3 * i + 1) by omega, A (3 * i + 1) (by omega), ro _ (by omega) (by omega), show 23 * v + 2 + 3 + (3 * i + 1) = 23 * v + 2 + 3 * (i + 1) + 1 by omega]; exact f2
              · rw [show 23 * v + 2 + 3 * i + 2 = 23 * v + 2 + (3 * i + 2) by omega, A (3 * i + 2) (by omega), ro _ (by omega) (by omega), show 23 * v + 2 + 3 + (3 * i + 2) = 23 * v + 2 + 3 * (i + 1) + 2 by omega]; exact f3
            · rw [if_neg e] at hi
              rw [if_neg e, if_neg e, if_neg e]
              obtain ⟨f1, f2, f3⟩ := g3 i hi
              refine ⟨?_, ?_, ?_⟩
              · rw [B _ (by omega), ro _ (by omega) (by omega)]; exact f1
              · rw [B _ (by omega), ro _ (by omega) (by omega)]; exact f2
              · rw [B _ (by omega), ro _ (by omega) (by omega)]; exact f3
        · rw [B _ (by omega), ro _ (by omega) (by omega)]; exact H2
        · rw [B _ (by omega), ro _ (by omega) (by omega)]; exact H3
        · rw [B _ (by omega), ro _ (by omega) (by omega)]; exact H4
        · rw [B _ (by omega), r95]; rfl
      | succ n ih =>
        intro k τ hn hk F A B
        have ec : gI τ 50 (23 * w) = nI (hC h w - 1) := by rw [B _ (by omega), rc]
        rw [P_X7_takeOut_l51]
        unfold P_X7_many
        rw [e23, nI_clamp (n := 23 * w) (by omega), ec]
        dsimp only
        rw [show (3 : Int32) * nI (hC h w - 1) = nI (3 * (hC h w - 1)) from pk_mul 3 _]
        have e1 : (((23 : Int32) * nI w) + 2) + nI k = nI (23 * w + 2 + k) := by rw [show (23 : Int32) = nI 23 from rfl, show (2 : Int32) = nI 2 from rfl, pk_mul, nI_add, nI_add]
        have e2 : ((((23 : Int32) * nI w) + 2) + 3) + nI k = nI (23 * w + 2 + 3 + k) := by rw [show (23 : Int32) = nI 23 from rfl, show (2 : Int32) = nI 2 from rfl, show (3 : Int32) = nI 3 from rfl, pk_mul, nI_add, nI_add, nI_add]
        rw [e1, e2, nI_1, nI_clamp (by omega), nI_clamp (by omega)]
        refine ⟨in_I (by omega) (by omega), fun z => absurd ((nI_leI (by omega) (by omega)).mp z) (by omega), fun _ => ⟨in_I (by omega) (by omega), in_I (by omega) (by omega), ?_⟩⟩
        refine ih (k + 1) _ (by omega) (by omega) (F.sI rfl _ _) (fun j hj => ?_) (fun j hj => ?_)
        · by_cases e : j = k
          · subst e; rw [gI_eq, B _ (by omega)]
          · rw [gI_ne (by omega)]; exact A j (by omega)
        · rw [gI_ne (by omega)]; exact B j (by omega)
    exact head _ 0 ρ rfl (by omega) Fρ (fun j hj => by omega) (fun j _ => rfl)
  unfold P_X7_takeOut
  refine m_coin (i := 0) M hw h4 h0 ?_
  rw [e23, nI_clamp (by omega), M.2.2.2.2, nI_add]
  have hin : vp_in (nI (23 * w)) 96 := in_I (by omega) (by omega)
  have ec : ∀ v, gI (sI σ 50 95 v) 50 (23 * w) - 1 = nI (hC h w - 1) := fun v => by
    rw [gI_ne (by omega), (M.1 w h4).1, show nI (hC h w) - 1 = nI (hC h w - 1) from pk_sub (b := 1) h0]
  rw [ec, ec]
  have FF : ∀ v v2, Fr (isC 50) σ (sI (sI σ 50 95 v) 50 (23 * w) v2) := fun v v2 => ((Fr.rf (S := isC 50)).sI rfl _ _).sI rfl _ _
  refine ⟨fun z => ⟨hin, hin, loop _ (FF _ _) ?_ (gI_eq _ _ _ _) ?_⟩, fun z => ⟨hin, hin, loop _ (FF _ _) ?_ (gI_eq _ _ _ _) ?_⟩⟩
  · rw [gI_ne (by omega), gI_eq]
    have := (nI_leI (a := 999999) (by omega) (by omega)).mp z
    rw [Nat.min_eq_left this]; rfl
  · intro j h1 h2; rw [gI_ne (by omega), gI_ne (by omega)]
  · rw [gI_ne (by omega), gI_eq]
    have := mt (nI_leI (a := 999999) (b := hU h + coin h w 0) (by omega) (by omega)).mpr z
    rw [Nat.min_eq_right (by omega)]
  · intro j h1 h2; rw [gI_ne (by omega), gI_ne (by omega)]
theorem Ms_cp {σ τ : St} {b c : Nat} {h : MH} (M : Ms σ b h) (hw : Wf h) (e : ∀ j, j < 96 → gI τ c j = gI σ b j) : Ms τ c h := by
  refine ⟨fun v hv => ?_, ?_, ?_, ?_, ?_⟩
  · have v7 := (hw.1 v hv).1
    obtain ⟨g1, g2, g3⟩ := M.1 v hv
    refine ⟨by rw [e _ (by omega)]; exact g1, by rw [e _ (by omega)]; exact g2, fun i hi => ?_⟩
    obtain ⟨f1, f2, f3⟩ := g3 i hi
    exact ⟨by rw [e _ (by omega)]; exact f1, by rw [e _ (by omega)]; exact f2, by rw [e _ (by omega)]; exact f3⟩
  · rw [e _ (by omega)]; exact M.2.1
  · rw [e _ (by omega)]; exact M.2.2.1
  · rw [e _ (by omega)]; exact M.2.2.2.1
  · rw [e _ (by omega)]; exact M.2.2.2.2
theorem m_keep {σ : St} {c : Nat} (hc : ln c = 96) (hc50 : c ≠ 50) {Q : St → Prop} (hQ : ∀ τ, Fr (isC c) σ τ → (∀ j, j < 96 → gI τ c j = gI σ 50 j) → Q τ) : P_X7_moveAll true c σ Q := by
  unfold P_X7_moveAll
  refine ⟨97, ?_⟩
  have head : ∀ n k τ, n = 96 - k → k ≤ 96 → Fr (isC c) σ τ → (∀ j, j < k → gI τ c j = gI σ 50 j) → P_X7_moveAll_l2 true c (fun t39 => Q t39) Q (n + 1) (nI k) τ := by
    intro n
    induction n with
    | zero =>
      intro k τ hn hk F A
      have e : k = 96 := by omega
      subst e
      rw [P_X7_moveAll_l2]
      exact ⟨fun _ => hQ τ F A, fun z => absurd (nI_le (a := 96) (b := 96) (by omega) (by omega)) z⟩
    | succ n ih =>
      intro k τ hn hk F A
      rw [P_X7_moveAll_l2, hc, nI_clamp (by omega), nI_1]
      have hin : vp_in (nI k) 96 := in_I (by omega) (by omega)
      refine ⟨fun z => absurd ((nI_leI (a := 96) (by omega) (by omega)).mp z) (by omega), fun _ => ⟨fun z => absurd z (by decide), fun _ => ⟨hin, hin, ?_⟩⟩⟩
      refine ih (k + 1) _ (by omega) (by omega) (F.sI rfl _ _) (fun j hj => ?_)
      by_cases e : j = k
      · subst e; rw [gI_eq]; exact F.i (fun z => hc50 z.symm) _
      · rw [gI_ne (by omega)]; exact A j (by omega)
  exact head 96 0 σ (by omega) (by omega) Fr.rf (fun j hj => by omega)
theorem m_back {σ : St} {c : Nat} (hc : ln c = 96) (hc50 : c ≠ 50) {Q : St → Prop} (hQ : ∀ τ, Fr (isC 50) σ τ → (∀ j, j < 96 → gI τ 50 j = gI σ c j) → Q τ) : P_X7_moveAll false c σ Q := by
  unfold P_X7_moveAll
  refine ⟨97, ?_⟩
  have head : ∀ n k τ, n = 96 - k → k ≤ 96 → Fr (isC 50) σ τ → (∀ j, j < k → gI τ 50 j = gI σ c j) → P_X7_moveAll_l2 false c (fun t39 => Q t39) Q (n + 1) (nI k) τ := by
    intro n
    induction n with
    | zero =>
      intro k τ hn hk F A
      have e : k = 96 := by omega
      subst e
      rw [P_X7_moveAll_l2]
      exact ⟨fun _ => hQ τ F A, fun z => absurd (nI_le (a := 96) (b := 96) (by omega) (by omega)) z⟩
    | succ n ih =>
      intro k τ hn hk F A
      rw [P_X7_moveAll_l2, hc, nI_clamp (by omega), nI_1]
      have hin : vp_in (nI k) 96 := in_I (by omega) (by omega)
      refine ⟨fun z => absurd ((nI_leI (a := 96) (by omega) (by omega)).mp z) (by omega), fun _ => ⟨fun _ => ⟨hin, hin, ?_⟩, fun z => absurd z (by decide)⟩⟩
      refine ih (k + 1) _ (by omega) (by omega) (F.sI rfl _ _) (fun j hj => ?_)
      by_cases e : j = k
      · subst e; rw [gI_eq]; exact F.i hc50 _
      · rw [gI_ne (by omega)]; exact A j (by omega)
  exact head 96 0 σ (by omega) (by omega) Fr.rf (fun j hj => by omega)
