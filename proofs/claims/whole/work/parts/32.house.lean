/-! THE CLASS'S HOUSE -/
def Hs (σ : St) (a : Nat) (h : MH) : Prop :=
  (∀ w, w < 4 → gI σ (a + 4) w = nI (hC h w) ∧ gI σ (a + 5) w = nI (hW h w) ∧ ∀ i, i < hC h w → gI σ (a + 1) (w * 7 + i) = nI (hK h w i) ∧ gI σ (a + 2) (w * 7 + i) = nI (hH h w i) ∧ gI σ (a + 3) (w * 7 + i) = nI (hP h w i)) ∧
  gI σ a 5 = nI (hB h) ∧ gI σ a 6 = nI (hS h) ∧ gI σ a 7 = nI (hN h) ∧ gI σ a 8 = nI (hU h)
theorem Hs.fr {σ τ : St} {a : Nat} {h : MH} {S : Nat → Prop} (H : Hs σ a h) (F : Fr S σ τ) (hS : ∀ j, j ≤ 5 → ¬ S (a + j)) : Hs τ a h := by
  have h0 := F.i (hS 0 (by omega))
  have h1 := F.i (hS 1 (by omega))
  have h2 := F.i (hS 2 (by omega))
  have h3 := F.i (hS 3 (by omega))
  have h4 := F.i (hS 4 (by omega))
  have h5 := F.i (hS 5 (by omega))
  simp only [Nat.add_zero] at h0
  unfold Hs
  simp only [h0, h1, h2, h3, h4, h5]
  exact H
theorem mx1 {a b : Nat} (ha : a < 2 ^ 30) (hb : b < 2 ^ 30) : mxI 1 (nI a - nI b) = nI (max 1 (a - b)) := by
  unfold mxI
  by_cases h : b ≤ a
  · rw [pk_sub h]
    by_cases h1 : 1 < a - b
    · rw [if_pos (show (1 : Int32) < nI (a - b) from nI_lt (a := 1) h1 (by omega)), Nat.max_eq_right (by omega)]
    · rw [if_neg (show ¬ (1 : Int32) < nI (a - b) from nI_nlt (a := 1) (b := a - b) (by omega) (by omega)), Nat.max_eq_left (by omega)]; rfl
  · have h1 := pk_sneg (a := a) hb (by omega)
    have h2 : ¬ (1 : Int32) < nI a - nI b := fun z => absurd (Int32.lt_trans z h1) (by decide)
    rw [if_neg h2, Nat.max_eq_left (by omega)]; rfl
theorem s_place {w i : Nat} {σ : St} {Q : Int32 → Prop} (h : Q (nI (w * 7 + i))) : P_X0_place (nI w) (nI i) σ Q := by
  unfold P_X0_place
  rw [lit_, pk_mul, nI_add]; exact h
theorem ten_I {a d : Nat} (ha : a < 2 ^ 31) (hd : 0 < d) (hd2 : d < 2 ^ 31) : nI a / nI d = nI (a / d) := pk_div ha hd hd2
theorem pl28 {h : MH} (hw : Wf h) {w i : Nat} (h4 : w < 4) (hi : i < hC h w) : w * 7 + i < 28 := by have := (hw.1 w h4).1; omega
theorem s_tallOf {σ : St} {a : Nat} {h : MH} (H : Hs σ a h) (hw : Wf h) {w i : Nat} (h4 : w < 4) (hi : i < hC h w) {Q : Int32 → Prop} (hQ : Q (nI (tall h w i))) : P_X0_tallOf a (nI w) (nI i) σ Q := by
  have hl := pl28 hw h4 hi
  obtain ⟨hk, hh, -⟩ := (H.1 w h4).2.2 i hi
  have hn := H.2.2.2.1
  have b1 := ((hw.1 w h4).2.2 i hi)
  have b2 := hw.2.2.2.1
  unfold P_X0_tallOf
  refine s_place ?_
  rw [nI_clamp (by omega), hk, hh, hn, mx1 (by omega) (by omega)]
  have hin : vp_in (nI (w * 7 + i)) 28 := in_I hl (by omega)
  have e2 : nI (hK h w i) = 2 ↔ hK h w i = 2 := nI_eq (b := 2) (by omega) (by omega)
  have e5 : nI (hK h w i) = 5 ↔ hK h w i = 5 := nI_eq (b := 5) (by omega) (by omega)
  rw [e2, e5]
  unfold tall at hQ
  refine ⟨hin, hin, fun z => ?_, fun z => ?_, fun z => ⟨hin, ?_⟩⟩
  · rw [if_pos z] at hQ; exact hQ
  · rw [if_neg (by omega), if_pos z] at hQ
    rw [lit_, pk_div (by omega) (by omega) (by omega)]; exact hQ
  · rw [if_neg z.1, if_neg z.2] at hQ; exact hQ
theorem s_coinOf {σ : St} {a : Nat} {h : MH} (H : Hs σ a h) (hw : Wf h) {w i : Nat} (h4 : w < 4) (hi : i < hC h w) {Q : Int32 → Prop} (hQ : Q (nI (coin h w i))) : P_X0_coinOf a (nI w) (nI i) σ Q := by
  have hl := pl28 hw h4 hi
  obtain ⟨hk, -, hp⟩ := (H.1 w h4).2.2 i hi
  have b1 := ((hw.1 w h4).2.2 i hi)
  unfold P_X0_coinOf
  refine s_place ?_
  rw [nI_clamp (by omega), hk, hp]
  have hin : vp_in (nI (w * 7 + i)) 28 := in_I hl (by omega)
  have e1 : nI (hK h w i) = 1 ↔ hK h w i = 1 := nI_eq (b := 1) (by omega) (by omega)
  have e2 : nI (hK h w i) = 2 ↔ hK h w i = 2 := nI_eq (b := 2) (by omega) (by omega)
  have e3 : nI (hK h w i) = 3 ↔ hK h w i = 3 := nI_eq (b := 3) (by omega) (by omega)
  have e4 : nI (hK h w i) = 4 ↔ hK h w i = 4 := nI_eq (b := 4) (by omega) (by omega)
  have e5 : nI (hK h w i) = 5 ↔ hK h w i = 5 := nI_eq (b := 5) (by omega) (by omega)
  rw [e1, e2, e3, e4, e5]
  unfold coin at hQ
  refine ⟨hin, fun z => ⟨hin, ?_⟩, fun z => ⟨hin, ?_⟩, fun z => ⟨hin, ?_⟩, fun z => ⟨hin, ?_⟩, fun z => ?_, fun z => ⟨hin, ?_⟩⟩
  · rw [if_pos z] at hQ; rw [lit_, nI_add]; exact hQ
  · rw [if_neg (by omega), if_neg (by omega), if_pos z] at hQ; rw [lit_, pk_div (by omega) (by omega) (by omega)]; exact hQ
  · rw [if_neg (by omega), if_neg (by omega), if_neg (by omega), if_neg (by omega)] at hQ; exact hQ
  · rw [if_neg (by omega), if_pos z] at hQ
    have e : (2 : Int32) * (nI (hP h w i) + 5) = nI (2 * (hP h w i + 5)) := by rw [show (5 : Int32) = nI 5 from rfl, nI_add, show (2 : Int32) = nI 2 from rfl, pk_mul]
    rw [e]; exact hQ
  · rw [if_neg (by omega), if_neg (by omega), if_neg (by omega), if_pos z] at hQ; exact hQ
  · rw [if_neg z.1, if_neg z.2.2.2.1, if_neg z.2.1, if_neg z.2.2.2.2] at hQ; exact hQ
/-- sums over a wall, from the lowest stone on -/
def sumT (h : MH) (w : Nat) : Nat → Nat
  | 0 => 0
  | i + 1 => sumT h w i + tall h w i
theorem topK_sum {h : MH} {w : Nat} : ∀ k, k ≤ hC h w → topK h w k + sumT h w (hC h w - k) = hW h w + sumT h w (hC h w) := by
  intro k
  induction k with
  | zero => intro _; simp [topK]
  | succ k ih =>
    intro hk
    have h1 := ih (by omega)
    have e : hC h w - k = (hC h w - (k + 1)) + 1 := by omega
    rw [e] at h1
    simp only [topK, sumT] at h1 ⊢
    omega
theorem s_topOf {σ : St} {a : Nat} {h : MH} (H : Hs σ a h) (hw : Wf h) {w : Nat} (h4 : w < 4) {Q : Int32 → Prop} (hQ : Q (nI (topK h w (hC h w)))) : P_X0_topOf a (nI w) σ Q := by
  have hc7 := (hw.1 w h4).1
  obtain ⟨hc, hwd, -⟩ := H.1 w h4
  unfold P_X0_topOf
  rw [nI_clamp (by omega), hwd]
  refine ⟨in_I h4 (by omega), hC h w + 1, ?_⟩
  have hin : vp_in (nI w) 4 := in_I h4 (by omega)
  have key : ∀ n i, i ≤ hC h w → n = hC h w - i → P_X0_topOf_l9 a (nI w) (fun k2 _ => Q k2) Q (n + 1) (nI (hW h w + sumT h w i)) (nI i) σ := by
    intro n
    induction n with
    | zero =>
      intro i hi hn
      have e : i = hC h w := by omega
      subst e
      rw [P_X0_topOf_l9, nI_clamp (by omega), hc]
      refine ⟨hin, fun _ => ?_, fun z => absurd (nI_le (Nat.le_refl _) (by omega)) z⟩
      have := topK_sum (h := h) (w := w) (hC h w) (Nat.le_refl _)
      rw [Nat.sub_self] at this
      simp only [sumT, Nat.add_zero] at this
      rw [← this]; exact hQ
    | succ n ih =>
      intro i hi hn
      rw [P_X0_topOf_l9, nI_clamp (by omega), hc]
      refine ⟨hin, fun z => absurd ((nI_leI (by omega) (by omega)).mp z) (by omega), fun z => ?_⟩
      refine s_tallOf H hw h4 (by omega) ?_
      rw [nI_add, nI_1, Nat.add_assoc]
      exact ih (i + 1) (by omega) (by omega)
  have := key (hC h w) 0 (by omega) (by omega)
  exact this
theorem s_coinsOf {σ : St} {a : Nat} {h : MH} (H : Hs σ a h) (hw : Wf h) {w : Nat} (h4 : w < 4) {Q : Int32 → Prop} (hQ : Q (nI (outC h w (hC h w)))) : P_X0_coinsOf a (nI w) σ Q := by
  have hc7 := (hw.1 w h4).1
  obtain ⟨hc, -, -⟩ := H.1 w h4
  unfold P_X0_coinsOf
  refine ⟨hC h w + 1, ?_⟩
  have hin : vp_in (nI w) 4 := in_I h4 (by omega)
  have key : ∀ n i, i ≤ hC h w → n = hC h w - i → P_X0_coinsOf_l4 a (nI w) (fun k2 _ => Q k2) Q (n + 1) (nI (outC h w i)) (nI i) σ := by
    intro n
    induction n with
    | zero =>
      intro i hi hn
      have e : i = hC h w := by omega
      subst e
      rw [P_X0_coinsOf_l4, nI_clamp (by omega), hc]
      exact ⟨hin, fun _ => hQ, fun z => absurd (nI_le (Nat.le_refl _) (by omega)) z⟩
    | succ n ih =>
      intro i hi hn
      rw [P_X0_coinsOf_l4, nI_clamp (by omega), hc]
      refine ⟨hin, fun z => absurd ((nI_leI (by omega) (by omega)).mp z) (by omega), fun z => ?_⟩
      refine s_coinOf H hw h4 (by omega) ?_
      rw [nI_add, nI_1]
      exact ih (i + 1) (by omega) (by omega)
  have := key (hC h w) 0 (by omega) (by omega)
  exact this
def allT (h : MH) : Nat := topK h 0 (hC h 0) + topK h 1 (hC h 1) + topK h 2 (hC h 2) + topK h 3 (hC h 3)
def allC (h : MH) : Nat := outC h 0 (hC h 0) + outC h 1 (hC h 1) + outC h 2 (hC h 2) + outC h 3 (hC h 3)
theorem s_allTops {σ : St} {a : Nat} {h : MH} (H : Hs σ a h) (hw : Wf h) {Q : Int32 → Prop} (hQ : Q (nI (allT h))) : P_X0_allTops a σ Q := by
  unfold P_X0_allTops
  refine ⟨5, ?_⟩
  have stp : ∀ n x w, w < 4 → P_X0_allTops_l4 a (fun k1 _ => Q k1) Q n (nI (x + topK h w (hC h w))) (nI (w + 1)) σ → P_X0_allTops_l4 a (fun k1 _ => Q k1) Q (n + 1) (nI x) (nI w) σ := by
    intro n x w h4 hh
    rw [P_X0_allTops_l4]
    refine ⟨fun z => absurd ((nI_leI (a := 4) (by omega) (by omega)).mp z) (by omega), fun _ => s_topOf H hw h4 ?_⟩
    rw [nI_add, nI_1]; exact hh
  refine stp 4 0 0 (by omega) (stp 3 _ 1 (by omega) (stp 2 _ 2 (by omega) (stp 1 _ 3 (by omega) ?_)))
  rw [P_X0_allTops_l4]
  refine ⟨fun _ => ?_, fun z => absurd (nI_le (a := 4) (b := 4) (by omega) (by omega)) z⟩
  simp only [Nat.zero_add]; exact hQ
theorem s_allCoins {σ : St} {a : Nat} {h : MH} (H : Hs σ a h) (hw : Wf h) {Q : Int32 → Prop} (hQ : Q (nI (allC h))) : P_X0_allCoins a σ Q := by
  unfold P_X0_allCoins
  refine ⟨5, ?_⟩
  have stp : ∀ n x w, w < 4 → P_X0_allCoins_l4 a (fun k1 _ => Q k1) Q n (nI (x + outC h w (hC h w))) (nI (w + 1)) σ → P_X0_allCoins_l4 a (fun k1 _ => Q k1) Q (n + 1) (nI x) (nI w) σ := by
    intro n x w h4 hh
    rw [P_X0_allCoins_l4]
    refine ⟨fun z => absurd ((nI_leI (a := 4) (by omega) (by omega)).mp z) (by omega), fun _ => s_coinsOf H hw h4 ?_⟩
    rw [nI_add, nI_1]; exact hh
  refine stp 4 0 0 (by omega) (stp 3 _ 1 (by omega) (stp 2 _ 2 (by omega) (stp 1 _ 3 (by omega) ?_)))
  rw [P_X0_allCoins_l4]
  refine ⟨fun _ => ?_, fun z => absurd (nI_le (a := 4) (b := 4) (by omega) (by omega)) z⟩
  simp only [Nat.zero_add]; exact hQ
theorem s_unit {w : Nat} (h4 : w < 4) {σ : St} {Q : Int32 → Prop} (h : Q (nI (8 ^ w))) : P_X3_unit (nI w) σ Q := by
  unfold P_X3_unit; rw [un_I h4]; exact h
theorem s_leftAt {s w : Nat} (hs : s < 4096) (h4 : w < 4) {σ : St} {Q : Int32 → Prop} (h : Q (nI (lf s w))) : P_X3_leftAt (nI s) (nI w) σ Q := by
  unfold P_X3_leftAt; rw [lf_I hs h4]; exact h
theorem s_stonesAt {s : Nat} (hs : s < 4096) {σ : St} {Q : Int32 → Prop} (h : Q (nI (stn s))) : P_X3_stonesAt (nI s) σ Q := by
  unfold P_X3_stonesAt
  refine s_leftAt (w := 0) hs (by omega) (s_leftAt (w := 1) hs (by omega) (s_leftAt (w := 2) hs (by omega) (s_leftAt (w := 3) hs (by omega) ?_)))
  rw [nI_add, nI_add, nI_add]; exact h
theorem s_standNow {σ : St} {a : Nat} {h : MH} (H : Hs σ a h) {Q : Int32 → Prop} (hQ : Q (nI (now h))) : P_X0_standNow a σ Q := by
  unfold P_X0_standNow
  refine ⟨5, ?_⟩
  have stp : ∀ n x w, w < 4 → P_X0_standNow_l4 a (fun k1 _ => Q k1) Q n (nI (x + hC h w * 8 ^ w)) (nI (w + 1)) σ → P_X0_standNow_l4 a (fun k1 _ => Q k1) Q (n + 1) (nI x) (nI w) σ := by
    intro n x w h4 hh
    rw [P_X0_standNow_l4]
    refine ⟨fun z => absurd ((nI_leI (a := 4) (by omega) (by omega)).mp z) (by omega), fun _ => ⟨in_I h4 (by omega), s_unit h4 ?_⟩⟩
    rw [nI_clamp (by omega), (H.1 w h4).1, pk_mul, nI_add, nI_1]; exact hh
  refine stp 4 0 0 (by omega) (stp 3 _ 1 (by omega) (stp 2 _ 2 (by omega) (stp 1 _ 3 (by omega) ?_)))
  rw [P_X0_standNow_l4]
  refine ⟨fun _ => ?_, fun z => absurd (nI_le (a := 4) (b := 4) (by omega) (by omega)) z⟩
  have e : 0 + hC h 0 * 8 ^ 0 + hC h 1 * 8 ^ 1 + hC h 2 * 8 ^ 2 + hC h 3 * 8 ^ 3 = now h := by unfold now; omega
  show Q (nI (0 + hC h 0 * 8 ^ 0 + hC h 1 * 8 ^ 1 + hC h 2 * 8 ^ 2 + hC h 3 * 8 ^ 3))
  rw [e]; exact hQ
theorem s_allStones {σ : St} {a : Nat} {h : MH} (H : Hs σ a h) (hw : Wf h) {Q : Int32 → Prop} (hQ : Q (nI (stn (now h)))) : P_X0_allStones a σ Q := by
  unfold P_X0_allStones
  exact s_standNow H (s_stonesAt (now_lt hw) hQ)
theorem s_isPartOf {p : Int32} {h : MH} (hw : Wf h) {σ : St} {Q : Bool → Prop} (hy : ∀ s, p = nI s → prB h s = true → Q true) (no : (∀ s, p = nI s → prB h s = true → False) → Q false) : P_X3_isPartOf p (nI (now h)) σ Q := by
  unfold P_X3_isPartOf
  refine ⟨fun z => no ?_, fun z => ⟨fun y => ?_, fun y => no ?_⟩⟩
  · rintro s rfl hp
    exact nI_pos (by have := (prB_iff.mp hp).1; omega) z
  · obtain ⟨s, hs, rfl⟩ := nI_of z
    have hs : s < 4096 := (nI_ltI (b := 4096) (by omega) (by omega)).mp y
    refine ⟨5, ?_⟩
    have stp : ∀ n w, w < 4 → (lf s w ≤ hC h w → P_X3_isPartOf_l15 (nI s) (nI (now h)) (fun _ => Q true) Q n (nI (w + 1)) σ) → P_X3_isPartOf_l15 (nI s) (nI (now h)) (fun _ => Q true) Q (n + 1) (nI w) σ := by
      intro n w h4 hh
      rw [P_X3_isPartOf_l15]
      refine ⟨fun z => absurd ((nI_leI (a := 4) (by omega) (by omega)).mp z) (by omega), fun _ => s_leftAt hs h4 (s_leftAt (now_lt hw) h4 ?_)⟩
      rw [lf_now hw h4]
      have b1 := lf_lt s w
      have b2 := (hw.1 w h4).1
      refine ⟨fun x => ?_, fun x => no ?_⟩
      · rw [nI_1]; exact hh ((nI_leI (by omega) (by omega)).mp x)
      · rintro t e hp
        have := (nI_eq (by omega) (by have := (prB_iff.mp hp).1; omega)).mp e
        subst this
        exact x (nI_le ((prB_iff.mp hp).2 w h4) (by omega))
    refine stp 4 0 (by omega) (fun a0 => stp 3 1 (by omega) (fun a1 => stp 2 2 (by omega) (fun a2 => stp 1 3 (by omega) (fun a3 => ?_))))
    rw [P_X3_isPartOf_l15]
    refine ⟨fun _ => ?_, fun z => absurd (nI_le (a := 4) (b := 4) (by omega) (by omega)) z⟩
    exact hy s rfl (by unfold prB; exact decide_eq_true ⟨hs, a0, a1, a2, a3⟩)
  · rintro s rfl hp
    exact y (nI_lt (b := 4096) (prB_iff.mp hp).1 (by omega))
