/-! SLACKFOR, SLACKALL -/
theorem topK_sl {h : MH} {k w : Nat} : ∀ n, topK (hsl h k) w n = topK h w n := by
  intro n
  induction n with
  | zero => rfl
  | succ n ih => simp only [topK]; rw [ih]; rfl
theorem wd_sl {h : MH} {k s : Nat} : wd (hsl h k) s = wd h s := by
  have d : ∀ b, dB (hsl h k) s b = dB h s b := fun b => by
    unfold dB tp
    rw [topK_sl, topK_sl]
    rfl
  unfold wd
  rw [d, d, d]
def ps (h : MH) (s k : Nat) : Prop := 0 < V (hsl h k) okT s
theorem ps_iff {h : MH} {s k : Nat} : ps h s k ↔ s = now h ∨ (wd h s ≤ k ∧ ∃ w, w < 4 ∧ ed h okT (s + 8 ^ w) w = true ∧ ps h (s + 8 ^ w) k) := by
  unfold ps
  rw [V_eq]
  show 0 < (if s = now h then 1 else if sf (hsl h k) s = true then s4 (fun w => if ed h okT (s + 8 ^ w) w = true then V (hsl h k) okT (s + 8 ^ w) else 0) else 0) ↔ _
  by_cases e : s = now h
  · rw [if_pos e]; exact ⟨fun _ => Or.inl e, fun _ => by omega⟩
  · rw [if_neg e]
    have es : sf (hsl h k) s = true ↔ wd h s ≤ k := by
      unfold sf
      rw [decide_eq_true_eq, wd_sl]
      exact Iff.rfl
    by_cases c : sf (hsl h k) s = true
    · rw [if_pos c, s4_pos]
      constructor
      · rintro ⟨w, h4, z⟩
        by_cases e2 : ed h okT (s + 8 ^ w) w = true
        · rw [if_pos e2] at z; exact Or.inr ⟨es.mp c, w, h4, e2, z⟩
        · rw [if_neg e2] at z; omega
      · rintro (z | ⟨_, w, h4, e2, z⟩)
        · exact absurd z e
        · exact ⟨w, h4, by rw [if_pos e2]; exact z⟩
    · rw [if_neg c]
      constructor
      · intro z; omega
      · rintro (z | ⟨z, _⟩)
        · exact absurd z e
        · exact absurd (es.mpr z) c
theorem ps_mono {h : MH} {k k2 : Nat} (hk : k ≤ k2) : ∀ n s, now h - s ≤ n → ps h s k → ps h s k2 := by
  intro n
  induction n with
  | zero =>
    intro s hs q
    rcases ps_iff.mp q with z | ⟨_, w, h4, e, _⟩
    · exact ps_iff.mpr (Or.inl z)
    · have := ed_le e; have := p8_pos w; omega
  | succ n ih =>
    intro s hs q
    rcases ps_iff.mp q with z | ⟨z, w, h4, e, y⟩
    · exact ps_iff.mpr (Or.inl z)
    · have := ed_le e; have := p8_pos w
      exact ps_iff.mpr (Or.inr ⟨by omega, w, h4, e, ih _ (by omega) y⟩)
theorem ps_le {h : MH} {s k k2 : Nat} (hk : k ≤ k2) (q : ps h s k) : ps h s k2 := ps_mono hk _ s (Nat.le_refl _) q
/-- the class halves -/
def Hv (h : MH) (s l d : Nat) : Prop := (∀ k, k < l → ¬ ps h s k) ∧ (l + d ≤ 127 → ps h s (l + d - 1)) ∧ l + d ≤ 128
theorem hsl2 {h : MH} {x v : Nat} : hsl (hsl h x) v = hsl h v := rfl
theorem s_slack16 {σ : St} {h : MH} {s : Nat} (hw : Wf h) (hs : s ≤ now h) {K Q : Int32 → St → Prop} {n l d x : Nat} (hd : 0 < d) {θ : St} (F : Fr inTr σ θ) (H : Hs θ 13 (hsl h x)) (hx : x ≤ 200) (v : Hv h s l (2 * d))
    (nx : ∀ (π : St) (l2 y : Nat), Fr inTr σ π → Hs π 13 (hsl h y) → y ≤ 200 → Hv h s l2 d → P_X6_leastSlack_l16 (nI s) K Q n (nI l2) (nI (d / 2)) π) : P_X6_leastSlack_l16 (nI s) K Q (n + 1) (nI l) (nI d) θ := by
  obtain ⟨v1, v2, v3⟩ := v
  rw [P_X6_leastSlack_l16, nI_add, show nI (l + d) - 1 = nI (l + d - 1) from pk_sub (b := 1) (by omega), show (nI d / 2 : Int32) = nI (d / 2) from pk_div (d := 2) (by omega) (by omega) (by omega)]
  have H2 : Hs (sI θ 13 6 (nI (l + d - 1))) 13 (hsl h (l + d - 1)) := Hs_sl H (wf_sl hw hx) (l + d - 1)
  refine ⟨fun z => absurd ((nI_leI (b := 0) (by omega) (by omega)).mp z) (by omega), fun _ => s_canBe H2 (wf_sl hw (by omega)) (by omega) (s := s) hs (fun π G => ?_)⟩
  have F2 : Fr inTr σ π := (F.sI (by decide) _ _).tr (G.mono inW_Tr)
  have H3 := Hs13 H2 G
  refine ⟨fun z => ?_, fun z => ?_⟩
  · have z2 : ps h s (l + d - 1) := (of_decide_eq_true z : 0 < V (hsl h (l + d - 1)) okT s)
    exact nx π l (l + d - 1) F2 H3 (by omega) ⟨v1, fun _ => z2, by omega⟩
  · have z2 : ¬ ps h s (l + d - 1) := (of_decide_eq_false z : ¬ 0 < V (hsl h (l + d - 1)) okT s)
    refine nx π (l + d) (l + d - 1) F2 H3 (by omega) ⟨fun k hk q => z2 (ps_le (by omega) q), fun y => ?_, by omega⟩
    have := v2 (by omega)
    rwa [show l + 2 * d - 1 = l + d + d - 1 by omega] at this
theorem s_leastSlack {σ : St} {h : MH} {s : Nat} (H : Hs σ 1 h) (hw : Wf h) (hs : s ≤ now h) {Q : Int32 → St → Prop}
    (q1 : ∀ π l, Fr inTr σ π → l ≤ 99 → (∀ k, k < l → ¬ ps h s k) → ps h s l → Q (nI l) π) (q2 : ∀ π, Fr inTr σ π → (∀ k, k < 100 → ¬ ps h s k) → P_X6_finding (-1000000004) π (fun r64 t64 => Q r64 t64)) : P_X6_leastSlack (nI s) σ Q := by
  unfold P_X6_leastSlack
  refine s_becomeLike H hw (Or.inr (by omega)) (fun τ F Hτ => ⟨8, ?_⟩)
  have F1 := F.mono inH_Tr
  refine s_slack16 hw hs (σ := σ) (x := hS h) (n := 7) (l := 0) (d := 64) (by omega) F1 Hτ hw.2.2.1 ⟨fun k hk => by omega, fun z => by omega, by omega⟩ (fun t1 l1 y1 G1 K1 z1 v1 => ?_)
  refine s_slack16 hw hs (n := 6) (d := 32) (by omega) G1 K1 z1 v1 (fun t2 l2 y2 G2 K2 z2 v2 => ?_)
  refine s_slack16 hw hs (n := 5) (d := 16) (by omega) G2 K2 z2 v2 (fun t3 l3 y3 G3 K3 z3 v3 => ?_)
  refine s_slack16 hw hs (n := 4) (d := 8) (by omega) G3 K3 z3 v3 (fun t4 l4 y4 G4 K4 z4 v4 => ?_)
  refine s_slack16 hw hs (n := 3) (d := 4) (by omega) G4 K4 z4 v4 (fun t5 l5 y5 G5 K5 z5 v5 => ?_)
  refine s_slack16 hw hs (n := 2) (d := 2) (by omega) G5 K5 z5 v5 (fun t6 l6 y6 G6 K6 z6 v6 => ?_)
  refine s_slack16 hw hs (n := 1) (d := 1) (by omega) G6 K6 z6 v6 (fun t7 l7 y7 G7 K7 z7 v7 => ?_)
  obtain ⟨w1, w2, w3⟩ := v7
  rw [P_X6_leastSlack_l16]
  refine ⟨fun _ => ⟨fun z => ?_, fun z => ?_⟩, fun z => absurd (by decide) z⟩
  · have l9 : l7 ≤ 99 := (nI_leI (b := 99) (by omega) (by omega)).mp z
    exact q1 t7 l7 G7 l9 w1 (by have := w2 (by omega); rwa [show l7 + 1 - 1 = l7 by omega] at this)
  · have l9 : ¬ l7 ≤ 99 := mt (nI_leI (b := 99) (by omega) (by omega)).mpr z
    exact q2 t7 G7 (fun k hk => w1 k (by omega))
/-- what the reference has found of a stand: done, and on the way -/
def Dn (σ : St) (h : MH) (s : Nat) : Prop := ∃ n, n ≤ 1000 ∧ gI σ 57 s = nI n ∧ ∀ k, k < 100 → (n ≤ k ↔ ps h s k)
def Wy2 (σ : St) (h : MH) (a v s : Nat) : Prop := ∃ n, n ≤ 1000 ∧ (n < 100 ∨ n = 1000) ∧ gI σ 57 s = nI n ∧ ∀ k, k < 100 → (n ≤ k ↔ s = now h ∨ ∃ w, w < 4 ∧ ed h okT (s + 8 ^ w) w = true ∧ (a < s + 8 ^ w ∨ (a = s + 8 ^ w ∧ w < v)) ∧ ps h (s + 8 ^ w) k)
theorem Wy2_nx {σ : St} {h : MH} {a s : Nat} (z : Wy2 σ h a 4 s) (ha : 0 < a) : Wy2 σ h (a - 1) 0 s := by
  obtain ⟨n, n1, n2, n3, n4⟩ := z
  refine ⟨n, n1, n2, n3, fun k hk => (n4 k hk).trans (or_congr Iff.rfl ?_)⟩
  constructor
  · rintro ⟨w, h4, e, c, p⟩; exact ⟨w, h4, e, by omega, p⟩
  · rintro ⟨w, h4, e, c, p⟩; exact ⟨w, h4, e, by omega, p⟩
theorem Wy2_skip {σ : St} {h : MH} {a v s : Nat} (z : Wy2 σ h a v s) (c : ed h okT a v = false ∨ ∀ k, k < 100 → ¬ ps h a k) : Wy2 σ h a (v + 1) s := by
  obtain ⟨n, n1, n2, n3, n4⟩ := z
  refine ⟨n, n1, n2, n3, fun k hk => (n4 k hk).trans (or_congr Iff.rfl ?_)⟩
  constructor
  · rintro ⟨w, h4, e, d, p⟩; exact ⟨w, h4, e, by omega, p⟩
  · rintro ⟨w, h4, e, d, p⟩
    refine ⟨w, h4, e, ?_, p⟩
    by_cases q : a = s + 8 ^ w ∧ w = v
    · obtain ⟨q1, q2⟩ := q
      subst q2
      rw [← q1] at e p
      rcases c with c | c
      · rw [c] at e; exact absurd e (by decide)
      · exact absurd p (c k hk)
    · omega
theorem Wy2_oth {σ τ : St} {h : MH} {a v s : Nat} (z : Wy2 σ h a v s) (c : s + 8 ^ v ≠ a) (eq : gI τ 57 s = gI σ 57 s) : Wy2 τ h a (v + 1) s := by
  obtain ⟨n, n1, n2, n3, n4⟩ := z
  refine ⟨n, n1, n2, by rw [eq]; exact n3, fun k hk => (n4 k hk).trans (or_congr Iff.rfl ?_)⟩
  constructor
  · rintro ⟨w, h4, e, d, p⟩; exact ⟨w, h4, e, by omega, p⟩
  · rintro ⟨w, h4, e, d, p⟩
    refine ⟨w, h4, e, ?_, p⟩
    by_cases q : w = v
    · subst q; omega
    · omega
theorem Wy2_at {σ τ : St} {h : MH} {a v n m : Nat} (z : Wy2 σ h a v (a - 8 ^ v)) (h4 : v < 4) (e : ed h okT a v = true) (hn : n < 100) (pn : ∀ k, k < 100 → (n ≤ k ↔ ps h a k)) (em : gI τ 57 (a - 8 ^ v) = nI m)
    (cm : (∃ o, gI σ 57 (a - 8 ^ v) = nI o ∧ o ≤ 1000 ∧ m = min o n)) : Wy2 τ h a (v + 1) (a - 8 ^ v) := by
  obtain ⟨x, n1, n2, n3, n4⟩ := z
  obtain ⟨o, o1, o2, o3⟩ := cm
  have eo : x = o := (nI_eq (by omega) (by omega)).mp (n3.symm.trans o1)
  subst eo
  have h8 := ed_8 h4 e
  have ea : a - 8 ^ v + 8 ^ v = a := Nat.sub_add_cancel h8
  have hp8 := p8_pos v
  refine ⟨m, by omega, by omega, em, fun k hk => ?_⟩
  rw [o3, show min x n ≤ k ↔ x ≤ k ∨ n ≤ k by omega, n4 k hk, pn k hk]
  constructor
  · rintro ((y | ⟨w, w4, e2, d, p⟩) | y)
    · exact Or.inl y
    · exact Or.inr ⟨w, w4, e2, by omega, p⟩
    · exact Or.inr ⟨v, h4, by rw [ea]; exact e, by omega, by rw [ea]; exact y⟩
  · rintro (y | ⟨w, w4, e2, d, p⟩)
    · exact Or.inl (Or.inl y)
    · by_cases q : w = v
      · subst q; rw [ea] at p; exact Or.inr p
      · exact Or.inl (Or.inr ⟨w, w4, e2, by omega, p⟩)
