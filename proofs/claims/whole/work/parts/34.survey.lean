/-! THE CLASS'S SURVEY -/
def Sv (σ : St) (a : Nat) (h : MH) : Prop :=
  gI σ a 3 = nI (now h) ∧ gI σ a 4 = nI (hB h) ∧ gI σ a 5 = nI (hS h) ∧
  ∀ w, w < 4 → (∀ k, k ≤ hC h w → gI σ (a + 1) (w * 8 + k) = nI (topK h w k) ∧ gI σ (a + 2) (w * 8 + k) = nI (outC h w (hC h w - k))) ∧ ∀ k, 0 < k → k ≤ hC h w → gI σ (a + 3) (w * 8 + k) = nI (hK h w (hC h w - k))
abbrev inS (a : Nat) : Nat → Prop := fun k => a ≤ k ∧ k ≤ a + 3
theorem Sv.fr {σ τ : St} {a : Nat} {h : MH} {S : Nat → Prop} (H : Sv σ a h) (F : Fr S σ τ) (hS : ∀ j, j ≤ 3 → ¬ S (a + j)) : Sv τ a h := by
  have h0 := F.i (hS 0 (by omega))
  have h1 := F.i (hS 1 (by omega))
  have h2 := F.i (hS 2 (by omega))
  have h3 := F.i (hS 3 (by omega))
  simp only [Nat.add_zero] at h0
  unfold Sv
  simp only [h0, h1, h2, h3]
  exact H
/-- tops, coins and kinds of the walls below w are there -/
def SvW (σ : St) (a : Nat) (h : MH) (u : Nat) : Prop := ∀ w, w < u → (∀ k, k ≤ hC h w → gI σ (a + 1) (w * 8 + k) = nI (topK h w k) ∧ gI σ (a + 2) (w * 8 + k) = nI (outC h w (hC h w - k))) ∧ ∀ k, 0 < k → k ≤ hC h w → gI σ (a + 3) (w * 8 + k) = nI (hK h w (hC h w - k))
/-- measure's invariant -/
def MI (σ τ : St) (a : Nat) (h : MH) (u : Nat) : Prop := Fr (inS a) σ τ ∧ gI τ a 3 = nI (now h) ∧ gI τ a 4 = nI (hB h) ∧ gI τ a 5 = nI (hS h) ∧ SvW τ a h u
theorem MI.st {σ τ : St} {a : Nat} {h : MH} {u : Nat} (hw : Wf h) (hu : u ≤ 4) (M : MI σ τ a h u) {i j : Nat} (hi : 0 < i) (hi3 : i ≤ 3) (hj : u * 8 ≤ j) (v : Int32) : MI σ (sI τ (a + i) j v) a h u := by
  obtain ⟨F, g3, g4, g5, S⟩ := M
  refine ⟨F.sI ⟨by omega, by omega⟩ _ _, by rw [gI_ne (by omega)]; exact g3, by rw [gI_ne (by omega)]; exact g4, by rw [gI_ne (by omega)]; exact g5, fun w hw2 => ?_⟩
  have hcw := (hw.1 w (by omega)).1
  refine ⟨fun k hk => ⟨?_, ?_⟩, fun k h0 hk => ?_⟩
  · rw [gI_ne (by omega)]; exact ((S w hw2).1 k hk).1
  · rw [gI_ne (by omega)]; exact ((S w hw2).1 k hk).2
  · rw [gI_ne (by omega)]; exact (S w hw2).2 k h0 hk
theorem MI.H {σ τ : St} {a p : Nat} {h : MH} {u : Nat} (H : Hs σ p h) (hap : p + 5 < a) (M : MI σ τ a h u) : Hs τ p h := H.fr M.1 (fun j hj z => by have := z.1; omega)
/-- the loop of coins -/
theorem s_measure3 {σ : St} {a p : Nat} {h : MH} (H : Hs σ p h) (hw : Wf h) (hap : p + 5 < a) {u : Nat} (h4 : u < 4) {K Q : St → Prop} (kk : ∀ π, MI σ π a h (u + 1) → K π) :
    ∀ (k : Nat) (π : St), k ≤ hC h u → MI σ π a h u → (∀ j, j ≤ hC h u → gI π (a + 1) (u * 8 + j) = nI (topK h u j)) → (∀ j, 0 < j → j ≤ hC h u → gI π (a + 3) (u * 8 + j) = nI (hK h u (hC h u - j))) → (∀ j, k ≤ j → j ≤ hC h u → gI π (a + 2) (u * 8 + j) = nI (outC h u (hC h u - j))) →
      P_X3_measure_l140 a p (nI u) (nI (hC h u)) (nI (u * 8)) K Q (k + 1) (nI k) π := by
  have hc7 := (hw.1 u h4).1
  intro k
  induction k with
  | zero =>
    intro π hk M qT qK qO
    rw [P_X3_measure_l140]
    refine ⟨fun _ => kk π ?_, fun z => absurd (nI_le (a := 0) (b := 0) (by omega) (by omega)) z⟩
    refine ⟨M.1, M.2.1, M.2.2.1, M.2.2.2.1, fun w hw2 => ?_⟩
    by_cases e : w < u
    · exact M.2.2.2.2 w e
    · have e : w = u := by omega
      subst e
      exact ⟨fun k hk => ⟨qT k hk, qO k (by omega) hk⟩, fun k h0 hk => qK k h0 hk⟩
  | succ k ihk =>
    intro π hk M qT qK qO
    rw [P_X3_measure_l140]
    refine ⟨fun z => absurd ((nI_leI (b := 0) (by omega) (by omega)).mp z) (by omega), fun _ => ?_⟩
    rw [nI_add, pk_sub (by omega), nI_clamp (n := u * 8 + (k + 1)) (by omega), show nI (u * 8 + (k + 1)) - 1 = nI (u * 8 + k) from pk_sub (a := u * 8 + (k + 1)) (b := 1) (by omega), nI_clamp (n := u * 8 + k) (by omega), qO (k + 1) (by omega) (by omega), show nI (k + 1) + (-1) = nI k from pk_m1 k]
    refine ⟨in_I (by omega) (by omega), s_coinOf (M.H H hap) hw h4 (by omega) ⟨in_I (by omega) (by omega), ?_⟩⟩
    rw [nI_add]
    have eo : outC h u (hC h u - (k + 1)) + coin h u (hC h u - (k + 1)) = outC h u (hC h u - k) := by
      rw [show hC h u - k = (hC h u - (k + 1)) + 1 by omega]; rfl
    rw [eo]
    refine ihk _ (by omega) (M.st hw (by omega) (by omega) (by omega) (by omega) _) ?_ ?_ ?_
    · intro j hj; rw [gI_ne (by omega)]; exact qT j hj
    · intro j h0 hj; rw [gI_ne (by omega)]; exact qK j h0 hj
    · intro j hj hj2
      by_cases e : j = k
      · subst e; rw [gI_eq]
      · rw [gI_ne (by omega)]; exact qO j (by omega) hj2
/-- the loop of tops and kinds -/
theorem s_measure2 {σ : St} {a p : Nat} {h : MH} (H : Hs σ p h) (hw : Wf h) (hap : p + 5 < a) {u : Nat} (h4 : u < 4) {K Q : St → Prop}
    (kk : ∀ π, MI σ π a h u → (∀ j, j ≤ hC h u → gI π (a + 1) (u * 8 + j) = nI (topK h u j)) → (∀ j, 0 < j → j ≤ hC h u → gI π (a + 3) (u * 8 + j) = nI (hK h u (hC h u - j))) → gI π (a + 2) (u * 8 + hC h u) = 0 → K π) :
    ∀ (n k : Nat) (ρ : St), k ≤ hC h u → n = hC h u - k → MI σ ρ a h u → (∀ j, j ≤ k → gI ρ (a + 1) (u * 8 + j) = nI (topK h u j)) → (∀ j, 0 < j → j ≤ k → gI ρ (a + 3) (u * 8 + j) = nI (hK h u (hC h u - j))) → gI ρ (a + 2) (u * 8 + hC h u) = 0 →
      P_X3_measure_l70 a p (nI u) (nI (hC h u)) (nI (u * 8)) K Q (n + 1) (nI (k + 1)) ρ := by
  have hc7 := (hw.1 u h4).1
  intro n
  induction n with
  | zero =>
    intro k ρ hk hn M rT rK rO
    have e : k = hC h u := by omega
    subst e
    rw [P_X3_measure_l70]
    exact ⟨fun _ => kk ρ M rT rK rO, fun z => absurd (nI_lt (Nat.lt_succ_self _) (by omega)) z⟩
  | succ n ihn =>
    intro k ρ hk hn M rT rK rO
    rw [P_X3_measure_l70]
    refine ⟨fun z => absurd ((nI_ltI (by omega) (by omega)).mp z) (by omega), fun _ => ?_⟩
    rw [nI_add, show nI (u * 8 + (k + 1)) - 1 = nI (u * 8 + k) from pk_sub (a := u * 8 + (k + 1)) (b := 1) (by omega), pk_sub (by omega), nI_clamp (n := u * 8 + k) (by omega), nI_clamp (n := u * 8 + (k + 1)) (by omega), rT k (by omega)]
    refine ⟨in_I (by omega) (by omega), s_tallOf (M.H H hap) hw h4 (by omega) ⟨in_I (by omega) (by omega), fun s107 e107 => s_place ?_⟩⟩
    rw [nI_add] at e107
    have M7 : MI σ s107 a h u := by rw [e107]; exact M.st hw (by omega) (by omega) (by omega) (by omega) _
    have hl := pl28 hw h4 (i := hC h u - (k + 1)) (by omega)
    rw [nI_clamp (n := u * 7 + (hC h u - (k + 1))) (by omega), (((M7.H H hap).1 u h4).2.2 (hC h u - (k + 1)) (by omega)).1, nI_1]
    refine ⟨in_I hl (by omega), in_I (by omega) (by omega), ?_⟩
    refine ihn (k + 1) _ (by omega) (by omega) (M7.st hw (by omega) (by omega) (by omega) (by omega) _) ?_ ?_ ?_
    · intro j hj
      rw [gI_ne (by omega), e107]
      by_cases e : j = k + 1
      · subst e; rw [gI_eq]; rfl
      · rw [gI_ne (by omega)]; exact rT j (by omega)
    · intro j h0 hj
      by_cases e : j = k + 1
      · subst e; rw [gI_eq]
      · rw [gI_ne (by omega), e107, gI_ne (by omega)]; exact rK j h0 (by omega)
    · rw [gI_ne (by omega), e107, gI_ne (by omega)]; exact rO
theorem s_measure {σ : St} {a p : Nat} {h : MH} (H : Hs σ p h) (hw : Wf h) (hap : p + 5 < a) {Q : St → Prop} (hQ : ∀ τ, Fr (inS a) σ τ → Sv τ a h → Q τ) : P_X3_measure a p σ Q := by
  have i0 : inS a a := ⟨by omega, by omega⟩
  have keep : ∀ {τ : St}, Fr (inS a) σ τ → Hs τ p h := fun F => H.fr F (fun j hj z => by have := z.1; omega)
  unfold P_X3_measure
  refine s_standNow H ?_
  intro s5 e5
  have F5 : Fr (inS a) σ s5 := by rw [e5]; exact Fr.rf.sI i0 _ _
  have K5 := keep F5
  have F6 : Fr (inS a) σ (sI s5 a 4 (gI s5 p 5)) := F5.sI i0 _ _
  have K6 := keep F6
  rw [K6.2.2.1, K5.2.1]
  rw [K5.2.1] at F6
  refine ⟨5, ?_⟩
  have head : ∀ (n u : Nat) (τ : St), u ≤ 4 → n = 4 - u → MI σ τ a h u → P_X3_measure_l26 a p (fun t => Q t) Q (n + 1) (nI u) τ := by
    intro n
    induction n with
    | zero =>
      intro u τ hu hn M
      have e : u = 4 := by omega
      subst e
      rw [P_X3_measure_l26]
      exact ⟨fun _ => hQ τ M.1 ⟨M.2.1, M.2.2.1, M.2.2.2.1, fun w h4 => M.2.2.2.2 w h4⟩, fun z => absurd (nI_le (a := 4) (b := 4) (by omega) (by omega)) z⟩
    | succ n ih =>
      intro u τ hu hn M
      have h4 : u < 4 := by omega
      have hc7 := (hw.1 u h4).1
      obtain ⟨c1, c2, -⟩ := (M.H H hap).1 u h4
      rw [P_X3_measure_l26]
      refine ⟨fun z => absurd ((nI_leI (a := 4) (by omega) (by omega)).mp z) (by omega), fun _ => ⟨in_I h4 (by omega), in_I h4 (by omega), ?_⟩⟩
      rw [nI_clamp (n := u) (by omega), c1, c2, show (nI u * 8 : Int32) = nI (u * 8) from pk_mul u 8, nI_add, nI_clamp (n := u * 8) (by omega), nI_clamp (n := u * 8 + hC h u) (by omega)]
      refine ⟨in_I (by omega) (by omega), in_I (by omega) (by omega), hC h u + 1, ?_⟩
      refine s_measure2 H hw hap h4 ?_ (hC h u) 0 _ (by omega) (by omega) ((M.st hw (by omega) (i := 1) (by omega) (by omega) (Nat.le_refl _) _).st hw (by omega) (i := 2) (by omega) (by omega) (by omega) _) ?_ ?_ ?_
      · intro π Mπ qT qK qO
        refine ⟨hC h u + 1, s_measure3 H hw hap h4 ?_ (hC h u) π (Nat.le_refl _) Mπ qT qK (fun j hj hj2 => ?_)⟩
        · intro ρ Mρ
          rw [nI_1]
          exact ih (u + 1) ρ (by omega) (by omega) Mρ
        · have e : j = hC h u := by omega
          subst e
          rw [qO, Nat.sub_self]; rfl
      · intro j hj
        have e : j = 0 := by omega
        subst e
        rw [gI_ne (by omega)]; exact gI_eq τ (a + 1) (u * 8) (nI (hW h u))
      · intro j h0 hj; omega
      · rw [gI_eq]
  refine head 4 0 _ (by omega) (by omega) ⟨F6.sI i0 _ _, ?_, ?_, ?_, fun w hw2 => by omega⟩
  · rw [gI_ne (by omega), gI_ne (by omega), e5, gI_eq]
  · rw [gI_ne (by omega), gI_eq]
  · rw [gI_eq]

theorem s_unlikeAt {σ : St} {a : Nat} {h : MH} (V : Sv σ a h) (hw : Wf h) {s : Nat} (hp : prB h s = true) {Q : Int32 → Prop} (hQ : Q (nI (wd h s))) : P_X3_unlikeAt a (nI s) σ Q := by
  have hs := (prB_iff.mp hp).1
  have hb := hw.2.1
  have top : ∀ w, w < 4 → gI σ (a + 1) (w * 8 + lf s w) = nI (tp h s w) := fun w h4 => ((V.2.2.2 w h4).1 (lf s w) ((prB_iff.mp hp).2 w h4)).1
  unfold P_X3_unlikeAt
  refine s_leftAt (w := 0) hs (by omega) ⟨in_I (by have := lf_lt s 0; omega) (by omega), 4, ?_⟩
  have t0 := top 0 (by omega)
  rw [nI_clamp (by have := lf_lt s 0; omega)]
  rw [show 0 * 8 + lf s 0 = lf s 0 by omega] at t0
  rw [t0]
  have stp : ∀ n x b, b < 3 → x ≤ 230 → P_X3_unlikeAt_l16 a (nI s) (fun k2 _ => Q k2) Q n (nI (max x (dB h s b))) (nI (tp h s (b + 1))) (nI (b + 1)) σ → P_X3_unlikeAt_l16 a (nI s) (fun k2 _ => Q k2) Q (n + 1) (nI x) (nI (tp h s b)) (nI b) σ := by
    intro n x b h3 hx hh
    have l1 := lf_lt s (b + 1)
    have b1 := tp_le hw hp (w := b) (by omega)
    have b2 := tp_le hw hp (w := b + 1) (by omega)
    rw [P_X3_unlikeAt_l16]
    refine ⟨fun z => absurd ((nI_leI (a := 3) (by omega) (by omega)).mp z) (by omega), fun _ => ?_⟩
    rw [nI_1]
    refine s_leftAt (w := b + 1) hs (by omega) ?_
    rw [show (nI (b + 1) * 8 : Int32) = nI ((b + 1) * 8) from pk_mul (b + 1) 8, nI_add, nI_clamp (n := (b + 1) * 8 + lf s (b + 1)) (by omega), top (b + 1) (by omega), V.2.1, bit_at _ hb _ h3, ab_I (by omega) (by omega), mx_I (by omega) (by have := dst_le b1 b2; omega)]
    refine ⟨in_I (by omega) (by omega), fun z => ?_, fun z => ?_⟩
    · have e : dB h s b = 0 := by unfold dB; rw [if_neg z]
      rw [e, Nat.max_eq_left (by omega)] at hh; exact hh
    · have e : dB h s b = dst (tp h s b) (tp h s (b + 1)) := by unfold dB; rw [if_pos z]
      rw [e] at hh; exact hh
  have d0 := dB_le hw hp (b := 0) (by omega)
  have d1 := dB_le hw hp (b := 1) (by omega)
  refine stp 3 0 0 (by omega) (by omega) (stp 2 _ 1 (by omega) (by omega) (stp 1 _ 2 (by omega) (by omega) ?_))
  rw [P_X3_unlikeAt_l16]
  refine ⟨fun _ => ?_, fun z => absurd (nI_le (a := 3) (b := 3) (by omega) (by omega)) z⟩
  rw [show max 0 (dB h s 0) = dB h s 0 by omega]; exact hQ
theorem s_lowestMayGo {σ : St} {a : Nat} {h : MH} (V : Sv σ a h) (hw : Wf h) {s w : Nat} (hp : prB h s = true) (h4 : w < 4) {Q : Bool → Prop} (hQ : Q (gs h s w)) : P_X3_lowestMayGo a (nI s) (nI w) σ Q := by
  have hs := (prB_iff.mp hp).1
  have hlw := (prB_iff.mp hp).2 w h4
  have l0 := lf_lt s w
  have hc7 := (hw.1 w h4).1
  unfold P_X3_lowestMayGo
  refine s_leftAt hs h4 ⟨fun z => ?_, fun z => ?_⟩
  · have hpos : 0 < lf s w := by
      rcases Nat.eq_zero_or_pos (lf s w) with e | e
      · rw [e] at z; exact absurd rfl z
      · exact e
    rw [show (nI w * 8 : Int32) = nI (w * 8) from pk_mul w 8, nI_add, nI_clamp (n := w * 8 + lf s w) (by omega), (V.2.2.2 w h4).2 (lf s w) hpos hlw]
    have hk := ((hw.1 w h4).2.2 (hC h w - lf s w) (by omega)).1
    unfold gs at hQ
    rw [decide_eq_true hpos, Bool.true_and] at hQ
    generalize hK h w (hC h w - lf s w) = k at hQ hk ⊢
    have e1 : nI k = 1 ↔ k = 1 := nI_eq (b := 1) (by omega) (by omega)
    have e3 : nI k = 3 ↔ k = 3 := nI_eq (b := 3) (by omega) (by omega)
    have e4 : nI k = 4 ↔ k = 4 := nI_eq (b := 4) (by omega) (by omega)
    have e0 : nI w = 0 ↔ w = 0 := nI_eq (b := 0) (by omega) (by omega)
    have e5 : (3 : Int32) ≤ nI w ↔ 3 ≤ w := nI_leI (a := 3) (by omega) (by omega)
    simp only [e1, e3, e4, e0, e5]
    refine ⟨in_I (by omega) (by omega), ?_⟩
    -- neighbours
    have nb : ∀ {X : Int32 → Prop}, w < 3 → X (nI (lf s (w + 1))) → P_X3_leftAt (nI s) (nI w + 1) σ X := fun h3 x => by rw [nI_1]; exact s_leftAt hs (by omega) x
    have pb : ∀ {X : Int32 → Prop}, 0 < w → X (nI (lf s (w - 1))) → P_X3_leftAt (nI s) (nI w - 1) σ X := fun h3 x => by rw [show nI w - 1 = nI (w - 1) from pk_sub (b := 1) h3]; exact s_leftAt hs (by omega) x
    have le1 : (nI (lf s (w + 1)) ≤ nI (lf s w)) ↔ lf s (w + 1) ≤ lf s w := nI_leI (by have := lf_lt s (w + 1); omega) (by omega)
    have lt1 : (nI (lf s w) < nI (lf s (w - 1))) ↔ lf s w < lf s (w - 1) := nI_ltI (by omega) (by have := lf_lt s (w - 1); omega)
    unfold mgK at hQ
    have key : (k = 1 ∨ k = 4) → Q (decide ((w = 0 ∨ lf s (w - 1) ≤ lf s w) ∧ (3 ≤ w ∨ lf s (w + 1) ≤ lf s w))) := fun y => by rw [if_pos y] at hQ; exact hQ
    have key3 : k = 3 → Q (decide (3 ≤ w ∨ lf s (w + 1) ≤ lf s w)) := fun y => by rw [if_neg (by omega), if_pos y] at hQ; exact hQ
    have keyo : ¬ k = 1 → ¬ k = 4 → ¬ k = 3 → Q true := fun a b c => by rw [if_neg (by omega), if_neg c] at hQ; exact hQ
    have T : ∀ {c : Prop} [Decidable c], c → Q (decide c) → Q true := fun {c} _ hc q => by rw [decide_eq_true hc] at q; exact q
    have N : ∀ {c : Prop} [Decidable c], ¬ c → Q (decide c) → Q false := fun {c} _ hc q => by rw [decide_eq_false hc] at q; exact q
    have tail : (k = 1 ∨ k = 4) → (3 ≤ w ∨ lf s (w + 1) ≤ lf s w) → ((k = 3 → Q true) ∧ (¬ k = 3 → (w = 0 → Q true) ∧ (¬ w = 0 → P_X3_leftAt (nI s) (nI w - 1) σ (fun r77 => (nI (lf s w) < r77 → Q false) ∧ (¬ nI (lf s w) < r77 → Q true))))) := fun y x =>
      ⟨fun k3 => by omega, fun _ => ⟨fun w0 => T ⟨Or.inl w0, x⟩ (key y), fun w0 => pb (by omega) ⟨fun q => N (fun c => by have := lt1.mp q; omega) (key y), fun q => T ⟨Or.inr (by have := mt lt1.mpr q; omega), x⟩ (key y)⟩⟩⟩
    have blk : (k = 1 ∨ k = 4) → ((3 ≤ w → (k = 3 → Q true) ∧ (¬ k = 3 → (w = 0 → Q true) ∧ (¬ w = 0 → P_X3_leftAt (nI s) (nI w - 1) σ (fun r77 => (nI (lf s w) < r77 → Q false) ∧ (¬ nI (lf s w) < r77 → Q true))))) ∧ (¬ 3 ≤ w → P_X3_leftAt (nI s) (nI w + 1) σ (fun r54 => (r54 ≤ nI (lf s w) → (k = 3 → Q true) ∧ (¬ k = 3 → (w = 0 → Q true) ∧ (¬ w = 0 → P_X3_leftAt (nI s) (nI w - 1) σ (fun r77 => (nI (lf s w) < r77 → Q false) ∧ (¬ nI (lf s w) < r77 → Q true))))) ∧ (¬ r54 ≤ nI (lf s w) → Q false)))) := fun y =>
      ⟨fun w3 => tail y (Or.inl w3), fun w3 => nb (by omega) ⟨fun q => tail y (Or.inr (le1.mp q)), fun q => N (fun c => by have := mt le1.mpr q; omega) (key y)⟩⟩
    refine ⟨fun y => blk (Or.inl y), fun y1 => ⟨fun y => blk (Or.inr y), fun y4 => ⟨fun y => ?_, fun y3 => keyo y1 y4 y3⟩⟩⟩
    refine ⟨fun w3 => ⟨fun _ => T (Or.inl w3) (key3 y), fun k3 => absurd y k3⟩, fun w3 => nb (by omega) ⟨fun q => ⟨fun _ => T (Or.inr (le1.mp q)) (key3 y), fun k3 => absurd y k3⟩, fun q => N (fun c => by have := mt le1.mpr q; omega) (key3 y)⟩⟩
  · have e : lf s w = 0 := (nI_eq (b := 0) (by omega) (by omega)).mp z
    unfold gs at hQ
    rw [decide_eq_false (by omega), Bool.false_and] at hQ
    exact hQ
theorem s_canPullAt {σ : St} {a : Nat} {h : MH} (V : Sv σ a h) (hw : Wf h) {s w : Nat} (hp : prB h s = true) (h4 : w < 4) {Q : Bool → Prop} (hQ : Q (gs h s w && sf h (s - 8 ^ w))) : P_X3_canPullAt a (nI s) (nI w) σ Q := by
  unfold P_X3_canPullAt
  refine s_lowestMayGo V hw hp h4 ⟨fun z => ?_, fun z => s_unit h4 ?_⟩
  · rw [z, Bool.false_and] at hQ; exact hQ
  · have hl : 0 < lf s w := by unfold gs at z; rw [Bool.and_eq_true] at z; exact of_decide_eq_true z.1
    have hs := (prB_iff.mp hp).1
    have hp2 := prB_sub hp h4 hl
    rw [pk_sub (lf_sub hs h4 hl h4).1]
    refine s_unlikeAt V hw hp2 ?_
    rw [V.2.2.1]
    have b1 := wd_le hw hp2
    have b2 := hw.2.2.1
    rw [z, Bool.true_and] at hQ
    unfold sf at hQ
    have e : nI (hS h) < nI (wd h (s - 8 ^ w)) ↔ hS h < wd h (s - 8 ^ w) := nI_ltI (by omega) (by omega)
    rw [e]
    refine ⟨fun y => ?_, fun y => ?_⟩
    · rw [decide_eq_false (by omega)] at hQ; exact hQ
    · rw [decide_eq_true (by omega)] at hQ; exact hQ
theorem s_pulledAt {σ : St} {a : Nat} {h : MH} (V : Sv σ a h) (hw : Wf h) {s : Nat} (hp : prB h s = true) {Q : Int32 → Prop} (hQ : Q (nI (stn (now h) - stn s))) : P_X3_pulledAt a (nI s) σ Q := by
  unfold P_X3_pulledAt
  rw [V.1]
  refine s_stonesAt (now_lt hw) (s_stonesAt (prB_iff.mp hp).1 ?_)
  rw [pk_sub (stn_lt hw hp)]; exact hQ
theorem s_coinAt {σ : St} {a : Nat} {h : MH} (V : Sv σ a h) {s : Nat} (hp : prB h s = true) {Q : Int32 → Prop} (hQ : Q (nI (pcoin h s))) : P_X3_coinAt a (nI s) σ Q := by
  have hs := (prB_iff.mp hp).1
  unfold P_X3_coinAt
  refine ⟨5, ?_⟩
  have stp : ∀ n x w, w < 4 → P_X3_coinAt_l4 a (nI s) (fun k2 _ => Q k2) Q n (nI (x + outC h w (hC h w - lf s w))) (nI (w + 1)) σ → P_X3_coinAt_l4 a (nI s) (fun k2 _ => Q k2) Q (n + 1) (nI x) (nI w) σ := by
    intro n x w h4 hh
    have l1 := lf_lt s w
    rw [P_X3_coinAt_l4]
    refine ⟨fun z => absurd ((nI_leI (a := 4) (by omega) (by omega)).mp z) (by omega), fun _ => s_leftAt hs h4 ?_⟩
    rw [show (nI w * 8 : Int32) = nI (w * 8) from pk_mul w 8, nI_add, nI_clamp (n := w * 8 + lf s w) (by omega), ((V.2.2.2 w h4).1 (lf s w) ((prB_iff.mp hp).2 w h4)).2, nI_add, nI_1]
    exact ⟨in_I (by omega) (by omega), hh⟩
  refine stp 4 0 0 (by omega) (stp 3 _ 1 (by omega) (stp 2 _ 2 (by omega) (stp 1 _ 3 (by omega) ?_)))
  rw [P_X3_coinAt_l4]
  refine ⟨fun _ => ?_, fun z => absurd (nI_le (a := 4) (b := 4) (by omega) (by omega)) z⟩
  simp only [Nat.zero_add]; exact hQ
theorem outC_step {h : MH} {w k : Nat} (h0 : 0 < k) (hk : k ≤ hC h w) : outC h w (hC h w - (k - 1)) = outC h w (hC h w - k) + coin h w (hC h w - k) := by
  rw [show hC h w - (k - 1) = (hC h w - k) + 1 by omega]; rfl
theorem s_nextCoin {σ : St} {a : Nat} {h : MH} (V : Sv σ a h) (hw : Wf h) {s w : Nat} (hp : prB h s = true) (h4 : w < 4) (hl : 0 < lf s w) {Q : Int32 → Prop} (hQ : Q (nI (coin h w (hC h w - lf s w)))) : P_X3_nextCoin a (nI s) (nI w) σ Q := by
  have hs := (prB_iff.mp hp).1
  have hlw := (prB_iff.mp hp).2 w h4
  have l0 := lf_lt s w
  unfold P_X3_nextCoin
  refine s_leftAt hs h4 ?_
  have e1 := ((V.2.2.2 w h4).1 (lf s w) hlw).2
  have e2 := ((V.2.2.2 w h4).1 (lf s w - 1) (by omega)).2
  rw [show w * 8 + (lf s w - 1) = w * 8 + lf s w - 1 by omega] at e2
  rw [show (nI w * 8 : Int32) = nI (w * 8) from pk_mul w 8, nI_add, show nI (w * 8 + lf s w) - 1 = nI (w * 8 + lf s w - 1) from pk_sub (b := 1) (by omega), nI_clamp (n := w * 8 + lf s w) (by omega), nI_clamp (n := w * 8 + lf s w - 1) (by omega), e1, e2, outC_step hl hlw, pk_sub (by omega), Nat.add_sub_cancel_left]
  exact ⟨in_I (by omega) (by omega), in_I (by omega) (by omega), hQ⟩
