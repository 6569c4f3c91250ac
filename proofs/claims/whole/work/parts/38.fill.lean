/-! THE CLASS'S FILL -/
abbrev isC (c : Nat) : Nat → Prop := fun k => k = c
theorem s_jfill {σ : St} {c n : Nat} {v : Int64} (hc : ln c < 2 ^ 31) (hn : n ≤ ln c) {Q : St → Prop} (hQ : ∀ τ, Fr (isC c) σ τ → (∀ s, s < n → gL τ c s = v) → (∀ s, n ≤ s → gL τ c s = gL σ c s) → Q τ) : P_J7_fill_bad5a c 0 (nI n) v σ Q := by
  unfold P_J7_fill_bad5a P_J7_rangeCheck_23922
  have e1 : (0 : Int32) ≤ nI n := nI_pos' (by omega)
  have e2 : nI n ≤ Int32.ofNat (ln c) := nI_le hn hc
  refine ⟨fun _ => ⟨fun _ => ⟨fun _ => ⟨n + 1, ?_⟩, fun z => absurd e2 z⟩, fun z => absurd (by decide) z⟩, fun z => absurd e1 z⟩
  have head : ∀ m i τ, m = n - i → i ≤ n → Fr (isC c) σ τ → (∀ s, s < i → gL τ c s = v) → (∀ s, i ≤ s → gL τ c s = gL σ c s) → P_J7_fill_bad5a_l10 c (nI n) v (fun t27 => Q t27) Q (m + 1) (nI i) τ := by
    intro m
    induction m with
    | zero =>
      intro i τ hm hi F h1 h2
      have e : i = n := by omega
      subst e
      rw [P_J7_fill_bad5a_l10]
      exact ⟨fun _ => hQ τ F h1 h2, fun z => absurd (nI_le (Nat.le_refl _) (by omega)) z⟩
    | succ m ih =>
      intro i τ hm hi F h1 h2
      rw [P_J7_fill_bad5a_l10]
      refine ⟨fun z => absurd ((nI_leI (by omega) (by omega)).mp z) (by omega), fun _ => ⟨in_I (by omega) hc, ?_⟩⟩
      rw [nI_1, nI_clamp (by omega)]
      refine ih (i + 1) _ (by omega) (by omega) (F.sL rfl _ _) (fun s hs => ?_) (fun s hs => ?_)
      · by_cases e : s = i
        · subst e; rw [gL_eq]
        · rw [gL_ne (by omega)]; exact h1 s (by omega)
      · rw [gL_ne (by omega)]; exact h2 s (by omega)
  exact head n 0 σ (by omega) (by omega) Fr.rf (fun s hs => by omega) (fun s _ => rfl)
/-- what a sheet tells, or that none is told -/
def Told (σ : St) (h : MH) (ok : Nat → Nat → Bool) (p : Nat) : Prop :=
  (p = 999 ∧ ∀ u w, ok u w = true) ∨ (p ≠ 999 ∧ ∀ τ, Fr (isC 24) σ τ → ∀ u w, prB h u = true → w < 4 → 0 < lf u w → ∀ Q : Bool → Prop, Q (ok u w) → P_X2_tells p (nI (stn (now h) - stn u)) (nI (coin h w (hC h w - lf u w))) τ Q)
theorem Sv24 {σ τ : St} {h : MH} (hV : Sv σ 19 h) (F : Fr (isC 24) σ τ) : Sv τ 19 h := hV.fr F (fun j hj (z : 19 + j = 24) => by omega)
theorem s_fill92 {σ : St} {h : MH} {ok : Nat → Nat → Bool} {p : Nat} (hV : Sv σ 19 h) (hw : Wf h) (T : Told σ h ok p) {a : Nat} (hp : prB h a = true) {l3 : Int32} {K : St → Prop} {Q : Int32 → St → Prop}
    (kk : ∀ τ, Fr (isC 24) σ τ → AR τ 24 h ok a → K τ) : ∀ (n v : Nat) (τ : St), n = 4 - v → v ≤ 4 → Fr (isC 24) σ τ → AI τ 24 h ok a v → P_X1_fill_l92 19 p l3 (nI a) K Q (n + 1) (nI v) τ := by
  have ha := (prB_iff.mp hp).1
  intro n
  induction n with
  | zero =>
    intro v τ hn hv F A
    have e : v = 4 := by omega
    subst e
    rw [P_X1_fill_l92]
    exact ⟨fun _ => kk τ F (AI_end A), fun z => absurd (nI_le (a := 4) (b := 4) (by omega) (by omega)) z⟩
  | succ n ih =>
    intro v τ hn hv F A
    have h4 : v < 4 := by omega
    have tail : ed h ok a v = true → vp_in (nI a - nI (8 ^ v)) 4096 ∧ vp_in (nI a) 4096 ∧ vp_in (nI a - nI (8 ^ v)) 4096 ∧ P_X1_fill_l92 19 p l3 (nI a) K Q (n + 1) (nI v + 1) (sL τ 24 ((nI a - nI (8 ^ v)).toNatClampNeg) ((gL τ 24 (nI a - nI (8 ^ v)).toNatClampNeg) + (gL τ 24 (nI a).toNatClampNeg))) := by
      intro z
      have h8 := ed_8 h4 z
      have hp8 := p8_pos v
      rw [pk_sub h8, nI_clamp (n := a - 8 ^ v) (by omega), nI_clamp (n := a) (by omega), nI_1]
      exact ⟨in_I (by omega) (by omega), in_I (by omega) (by omega), in_I (by omega) (by omega), ih (v + 1) _ (by omega) (by omega) (F.sL rfl _ _) (AI_push A h4 z)⟩
    rw [P_X1_fill_l92]
    refine ⟨fun z => absurd ((nI_leI (a := 4) (by omega) (by omega)).mp z) (by omega), fun _ => s_lowestMayGo (Sv24 hV F) hw hp h4 ⟨fun z => ?_, fun z => ?_⟩⟩
    · rw [nI_1]
      exact ih (v + 1) τ (by omega) (by omega) F (AI_skip A (by unfold ed; rw [z, Bool.and_false, Bool.false_and]))
    · have hl := gs_lf z
      rcases T with ⟨t1, t2⟩ | ⟨t1, t2⟩
      · exact ⟨fun _ => s_unit h4 (tail (ed_iff.mpr ⟨hp, z, t2 a v⟩)), fun y => absurd t1 y⟩
      · refine ⟨fun y => absurd y t1, fun _ => s_pulledAt (Sv24 hV F) hw hp (s_nextCoin (Sv24 hV F) hw hp h4 hl (t2 τ F a v hp h4 hl _ ⟨fun y => ?_, fun y => s_unit h4 (tail (ed_iff.mpr ⟨hp, z, y⟩))⟩))⟩
        rw [nI_1]
        exact ih (v + 1) τ (by omega) (by omega) F (AI_skip A (by unfold ed; rw [y, Bool.and_false]))
theorem s_fill33 {σ : St} {h : MH} {ok : Nat → Nat → Bool} {p : Nat} (hV : Sv σ 19 h) (hw : Wf h) (T : Told σ h ok p) {Q : Int32 → St → Prop}
    (hQ : ∀ τ, Fr (isC 24) σ τ → (∀ s, s ≤ now h → gL τ 24 s = lN (V h ok s)) → Q (nI (cnt h ok (now h + 1))) τ) : ∀ (k r : Nat) (τ : St), k ≤ now h + 1 → r + cnt h ok k = cnt h ok (now h + 1) → Fr (isC 24) σ τ → AR τ 24 h ok k → P_X1_fill_l33 19 p (fun k3 t169 => Q k3 t169) Q (k + 1) (nI r) (nI k - 1) τ := by
  have hn := now_lt hw
  intro k
  induction k with
  | zero =>
    intro r τ hk hr F A
    rw [P_X1_fill_l33]
    refine ⟨fun _ => ?_, fun z => absurd (by decide) z⟩
    rw [show r = cnt h ok (now h + 1) by simp only [cnt] at hr ⊢; omega]
    exact hQ τ F (fun s hs => A.1 s (by omega) hs)
  | succ a ih =>
    intro r τ hk hr F A
    rw [P_X1_fill_l33, nI_pred, nI_clamp (n := a) (by omega), AR_at A, lgc_eq (B_lt hw a), (Sv24 hV F).1, (Sv24 hV F).2.2.1, show nI a + (-1) = nI a - 1 from (Int32.sub_eq_add_neg _ _).symm]
    refine ⟨fun z => absurd z (nI_pos (by omega)), fun _ => ⟨in_I (by omega) (by omega), fun z => ?_, fun z => ?_⟩⟩
    · have hp : prB h a = true := B_pr (ok := ok) hw (by omega)
      have inner : V h ok a = Bv h ok a → ∃ m92, P_X1_fill_l92 19 p (nI r + 1) (nI a) (fun t163 => P_X1_fill_l33 19 p (fun k3 t169 => Q k3 t169) Q (a + 1) (nI r + 1) (nI a - 1) t163) Q m92 0 τ := by
        intro e
        refine ⟨5, s_fill92 hV hw T hp ?_ 4 0 τ (by omega) (by omega) F (AR_in A e)⟩
        intro ρ Fρ Aρ
        rw [nI_1]
        refine ih (r + 1) ρ (by omega) ?_ Fρ Aρ
        simp only [cnt] at hr ⊢
        rw [if_pos (by omega)] at hr
        omega
      refine ⟨fun e => inner ?_, fun e => s_unlikeAt (Sv24 hV F) hw hp ⟨fun y => inner ?_, fun y => ⟨in_I (by omega) (by omega), ?_⟩⟩⟩
      · rw [V_B, if_pos (Or.inl ((nI_eq (by omega) (by omega)).mp e))]
      · rw [V_B, if_pos (Or.inr (by unfold sf; rw [decide_eq_true_eq]; exact (nI_leI (by have := wd_le hw hp; omega) (by have := hw.2.2.1; omega)).mp y))]
      · have e0 : V h ok a = 0 := by
          rw [V_B, if_neg]
          rintro (q | q)
          · exact e (by rw [q])
          · unfold sf at q; rw [decide_eq_true_eq] at q
            exact y ((nI_leI (by have := wd_le hw hp; omega) (by have := hw.2.2.1; omega)).mpr q)
        refine ih r _ (by omega) ?_ (F.sL rfl _ _) (AI_none (AR_un A e0) e0)
        simp only [cnt] at hr ⊢
        rw [if_neg (by omega)] at hr
        omega
    · have e0 : V h ok a = 0 := by have := V_leB (h := h) (ok := ok) a; omega
      refine ih r τ (by omega) ?_ F (AI_none (AR_in A (by omega)) e0)
      simp only [cnt] at hr ⊢
      rw [if_neg (by omega)] at hr
      omega
theorem s_fill {σ : St} {h : MH} {ok : Nat → Nat → Bool} {p : Nat} (hV : Sv σ 19 h) (hw : Wf h) (T : Told σ h ok p) {Q : Int32 → St → Prop}
    (hQ : ∀ τ, Fr (isC 24) σ τ → (∀ s, s ≤ now h → gL τ 24 s = lN (V h ok s)) → Q (nI (cnt h ok (now h + 1))) τ) : P_X1_fill 19 p σ Q := by
  have hn := now_lt hw
  unfold P_X1_fill
  rw [hV.1, nI_1]
  refine s_jfill (c := 24) (by decide) (by show now h + 1 ≤ 4096; omega) (fun τ F h1 h2 => ?_)
  rw [(Sv24 hV F).1, nI_clamp (by omega), show gI (sL τ 24 (now h) 1) 19 3 = nI (now h) from (Sv24 hV F).1]
  refine ⟨in_I (by omega) (by omega), now h + 2, ?_⟩
  have key := s_fill33 hV hw T hQ (now h + 1) 0 (sL τ 24 (now h) 1) (by omega) (by omega) (F.sL rfl _ _) (AR_0 (fun s hs => ?_))
  · rw [nI_pred] at key; exact key
  · by_cases e : s = now h
    · rw [e, gL_eq, if_pos rfl]
    · rw [gL_ne (by omega), if_neg e]; exact h1 s (by omega)
