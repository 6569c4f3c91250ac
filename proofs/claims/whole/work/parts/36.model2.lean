/-! THE REFERENCE'S TOPS -/
def MoW (σ : St) (h : MH) (u : Nat) : Prop := ∀ w, w < u → ∀ k, k ≤ hC h w → gI σ 52 (8 * w + k) = nI (topK h w k) ∧ gI σ 53 (8 * w + k) = nI (outC h w (hC h w - k))
def Mo (σ : St) (h : MH) : Prop := MoW σ h 4
theorem Mo.fr {σ τ : St} {h : MH} {S : Nat → Prop} (H : Mo σ h) (F : Fr S σ τ) (h2 : ¬ S 52) (h3 : ¬ S 53) : Mo τ h := by
  intro w hw k hk
  rw [F.i h2, F.i h3]
  exact H w hw k hk
abbrev inT : Nat → Prop := fun k => k = 52 ∨ k = 53
def TI (σ τ : St) (h : MH) (u : Nat) : Prop := Fr inT σ τ ∧ MoW τ h u
theorem TI.st {σ τ : St} {h : MH} {u : Nat} (hw : Wf h) (hu : u ≤ 4) (M : TI σ τ h u) {c j : Nat} (hc : c = 52 ∨ c = 53) (hj : 8 * u ≤ j) (v : Int32) : TI σ (sI τ c j v) h u := by
  refine ⟨M.1.sI hc _ _, fun w hw2 k hk => ?_⟩
  have hcw := (hw.1 w (by omega)).1
  rw [gI_ne (by omega), gI_ne (by omega)]
  exact M.2 w hw2 k hk
theorem TI.M {σ τ : St} {h : MH} {u : Nat} (M : Ms σ 50 h) (t : TI σ τ h u) : Ms τ 50 h := M.fr t.1 (by decide)
theorem m_findTops3 {σ : St} {h : MH} (M : Ms σ 50 h) (hw : Wf h) {u : Nat} (h4 : u < 4) {K Q : St → Prop} (kk : ∀ π, TI σ π h (u + 1) → K π) :
    ∀ (k : Nat) (π : St), k ≤ hC h u → TI σ π h u → (∀ j, j ≤ hC h u → gI π 52 (8 * u + j) = nI (topK h u j)) → (∀ j, k ≤ j → j ≤ hC h u → gI π 53 (8 * u + j) = nI (outC h u (hC h u - j))) →
      P_X7_findTops_l95 (nI u) (nI (hC h u)) K Q (k + 1) (nI k - 1) π := by
  have hc7 := (hw.1 u h4).1
  intro k
  induction k with
  | zero =>
    intro π hk T qT qO
    rw [P_X7_findTops_l95]
    refine ⟨fun _ => kk π ⟨T.1, fun w hw2 => ?_⟩, fun z => absurd (by decide) z⟩
    by_cases e : w < u
    · exact T.2 w e
    · have e : w = u := by omega
      subst e
      exact fun k hk => ⟨qT k hk, qO k (by omega) hk⟩
  | succ k ihk =>
    intro π hk T qT qO
    rw [P_X7_findTops_l95, nI_pred]
    refine ⟨fun z => absurd z (nI_pos (by omega)), fun _ => ?_⟩
    rw [show ((8 : Int32) * nI u) = nI (8 * u) from pk_mul 8 u, nI_add, nI_1, pk_sub (by omega), show nI (hC h u - k) - 1 = nI (hC h u - k - 1) from pk_sub (b := 1) (by omega), nI_clamp (n := 8 * u + k) (by omega), nI_clamp (n := 8 * u + k + 1) (by omega)]
    refine ⟨in_I (by omega) (by omega), m_coin (T.M M) hw h4 (by omega) ⟨in_I (by omega) (by omega), ?_⟩⟩
    have e1 := qO (k + 1) (by omega) (by omega)
    rw [show 8 * u + (k + 1) = 8 * u + k + 1 by omega] at e1
    rw [e1, nI_add]
    have eo : outC h u (hC h u - (k + 1)) + coin h u (hC h u - k - 1) = outC h u (hC h u - k) := by
      rw [show hC h u - k = (hC h u - (k + 1)) + 1 by omega]; rfl
    rw [eo, show nI k + (-1) = nI k - 1 from (Int32.sub_eq_add_neg _ _).symm]
    refine ihk _ (by omega) (T.st hw (by omega) (Or.inr rfl) (by omega) _) ?_ ?_
    · intro j hj; rw [gI_ne (by omega)]; exact qT j hj
    · intro j hj hj2
      by_cases e : j = k
      · subst e; rw [gI_eq]
      · rw [gI_ne (by omega)]; exact qO j (by omega) hj2
theorem m_findTops2 {σ : St} {h : MH} (M : Ms σ 50 h) (hw : Wf h) {u : Nat} (h4 : u < 4) {K Q : St → Prop} (kk : ∀ π, TI σ π h u → (∀ j, j ≤ hC h u → gI π 52 (8 * u + j) = nI (topK h u j)) → K π) :
    ∀ (n k : Nat) (ρ : St), k ≤ hC h u → n = hC h u - k → TI σ ρ h u → (∀ j, j ≤ k → gI ρ 52 (8 * u + j) = nI (topK h u j)) →
      P_X7_findTops_l35 (nI u) (nI (hC h u)) K Q (n + 1) (nI (k + 1)) ρ := by
  have hc7 := (hw.1 u h4).1
  intro n
  induction n with
  | zero =>
    intro k ρ hk hn T rT
    have e : k = hC h u := by omega
    subst e
    rw [P_X7_findTops_l35]
    exact ⟨fun _ => kk ρ T rT, fun z => absurd (nI_lt (Nat.lt_succ_self _) (by omega)) z⟩
  | succ n ihn =>
    intro k ρ hk hn T rT
    rw [P_X7_findTops_l35]
    refine ⟨fun z => absurd ((nI_ltI (by omega) (by omega)).mp z) (by omega), fun _ => ?_⟩
    rw [show ((8 : Int32) * nI u) = nI (8 * u) from pk_mul 8 u, nI_add, show nI (8 * u + (k + 1)) - 1 = nI (8 * u + k) from pk_sub (a := 8 * u + (k + 1)) (b := 1) (by omega), pk_sub (by omega), nI_clamp (n := 8 * u + k) (by omega), nI_clamp (n := 8 * u + (k + 1)) (by omega), rT k (by omega)]
    refine ⟨in_I (by omega) (by omega), m_tall (T.M M) hw h4 (by omega) ⟨in_I (by omega) (by omega), ?_⟩⟩
    rw [nI_add, nI_1]
    refine ihn (k + 1) _ (by omega) (by omega) (T.st hw (by omega) (Or.inl rfl) (by omega) _) ?_
    intro j hj
    by_cases e : j = k + 1
    · subst e; rw [gI_eq]; rfl
    · rw [gI_ne (by omega)]; exact rT j (by omega)
theorem m_findTops {σ : St} {h : MH} (M : Ms σ 50 h) (hw : Wf h) {Q : St → Prop} (hQ : ∀ τ, Fr inT σ τ → Mo τ h → Q τ) : P_X7_findTops σ Q := by
  unfold P_X7_findTops
  refine ⟨5, ?_⟩
  have head : ∀ (n u : Nat) (τ : St), u ≤ 4 → n = 4 - u → TI σ τ h u → P_X7_findTops_l2 (fun t => Q t) Q (n + 1) (nI u) τ := by
    intro n
    induction n with
    | zero =>
      intro u τ hu hn T
      have e : u = 4 := by omega
      subst e
      rw [P_X7_findTops_l2]
      exact ⟨fun _ => hQ τ T.1 T.2, fun z => absurd (nI_le (a := 4) (b := 4) (by omega) (by omega)) z⟩
    | succ n ih =>
      intro u τ hu hn T
      have h4 : u < 4 := by omega
      have hc7 := (hw.1 u h4).1
      rw [P_X7_findTops_l2]
      refine ⟨fun z => absurd ((nI_leI (a := 4) (by omega) (by omega)).mp z) (by omega), fun _ => m_many (T.M M) h4 ?_⟩
      rw [show ((23 : Int32) * nI u) + 1 = nI (23 * u + 1) from by rw [show (23 : Int32) = nI 23 from rfl, pk_mul, nI_1], show ((8 : Int32) * nI u) = nI (8 * u) from pk_mul 8 u, nI_add, nI_clamp (n := 23 * u + 1) (by omega), nI_clamp (n := 8 * u) (by omega), nI_clamp (n := 8 * u + hC h u) (by omega), ((T.M M).1 u h4).2.1]
      refine ⟨in_I (by omega) (by omega), in_I (by omega) (by omega), hC h u + 1, ?_⟩
      refine m_findTops2 M hw h4 ?_ (hC h u) 0 _ (by omega) (by omega) (T.st hw (by omega) (Or.inl rfl) (by omega) _) ?_
      · intro π Tπ qT
        refine ⟨in_I (by omega) (by omega), hC h u + 1, m_findTops3 M hw h4 ?_ (hC h u) _ (Nat.le_refl _) (Tπ.st hw (by omega) (Or.inr rfl) (by omega) _) ?_ ?_⟩
        · intro ρ Tρ
          rw [nI_1]
          exact ih (u + 1) ρ (by omega) (by omega) Tρ
        · intro j hj; rw [gI_ne (by omega)]; exact qT j hj
        · intro j hj hj2
          have e : j = hC h u := by omega
          subst e
          rw [gI_eq, Nat.sub_self]; rfl
      · intro j hj
        have e : j = 0 := by omega
        subst e
        exact gI_eq τ 52 (8 * u) (nI (hW h u))
  exact head 4 0 σ (by omega) (by omega) ⟨Fr.rf, fun w hw2 => by omega⟩
theorem m_topIn {σ : St} {h : MH} (O : Mo σ h) {s w : Nat} (hp : prB h s = true) (h4 : w < 4) {Q : Int32 → Prop} (hQ : Q (nI (tp h s w))) : P_X7_topIn (nI s) (nI w) σ Q := by
  have l0 := lf_lt s w
  unfold P_X7_topIn
  refine m_left (prB_iff.mp hp).1 h4 ?_
  rw [show ((8 : Int32) * nI w) = nI (8 * w) from pk_mul 8 w, nI_add, nI_clamp (by omega), (O w h4 (lf s w) ((prB_iff.mp hp).2 w h4)).1]
  exact ⟨in_I (by omega) (by omega), hQ⟩
theorem m_lies {σ : St} {h : MH} (M : Ms σ 50 h) (hw : Wf h) {b : Nat} (h3 : b < 3) {Q : Bool → Prop} (hQ : Q ((hB h).testBit b)) : P_X7_lies (nI b) σ Q := by
  unfold P_X7_lies
  rw [M.2.1, bit_at _ hw.2.1 _ h3]
  refine ⟨fun z => ?_, fun z => ?_⟩
  · rw [Bool.eq_false_iff.mpr z] at hQ; exact hQ
  · rw [z] at hQ; exact hQ
theorem m_unlikeAt {σ : St} {h : MH} (O : Mo σ h) (hw : Wf h) {s b : Nat} (hp : prB h s = true) (h3 : b < 3) {Q : Int32 → Prop} (hQ : Q (nI (dst (tp h s b) (tp h s (b + 1))))) : P_X7_unlikeAt (nI s) (nI b) σ Q := by
  have b1 := tp_le hw hp (w := b) (by omega)
  have b2 := tp_le hw hp (w := b + 1) (by omega)
  unfold P_X7_unlikeAt
  refine m_topIn O hp (by omega) ?_
  rw [nI_1]
  refine m_topIn O hp (by omega) ?_
  unfold dst at hQ
  generalize tp h s b = x at b1 hQ ⊢
  generalize tp h s (b + 1) = y at b2 hQ ⊢
  by_cases c : y ≤ x
  · rw [pk_sub c]
    refine ⟨fun _ => ?_, fun z => absurd (nI_pos' (by omega)) z⟩
    by_cases c2 : x ≤ y
    · rw [if_pos c2, show y - x = x - y by omega] at hQ; exact hQ
    · rw [if_neg c2] at hQ; exact hQ
  · have h1 := pk_sneg (a := x) (b := y) (by omega) (by omega)
    refine ⟨fun z => absurd h1 (Int32.not_lt.mpr z), fun _ => ?_⟩
    rw [Int32.neg_sub, pk_sub (by omega)]
    rw [if_pos (by omega)] at hQ; exact hQ
theorem sf_iff {h : MH} {s : Nat} : sf h s = true ↔ dB h s 0 ≤ hS h ∧ dB h s 1 ≤ hS h ∧ dB h s 2 ≤ hS h := by
  unfold sf wd
  rw [decide_eq_true_eq]; omega
theorem m_isSafe {σ : St} {h : MH} (M : Ms σ 50 h) (O : Mo σ h) (hw : Wf h) {s : Nat} (hp : prB h s = true) {Q : Bool → Prop} (hQ : Q (sf h s)) : P_X7_isSafe (nI s) σ Q := by
  have b2 := hw.2.2.1
  unfold P_X7_isSafe
  refine ⟨4, ?_⟩
  have stp : ∀ (n b : Nat) (ok : Bool), b < 3 → P_X7_isSafe_l4 (nI s) (fun k2 _ => isB k2 ∧ Q (nz k2)) Q n (bI (ok && decide (dB h s b ≤ hS h))) (nI (b + 1)) σ → P_X7_isSafe_l4 (nI s) (fun k2 _ => isB k2 ∧ Q (nz k2)) Q (n + 1) (bI ok) (nI b) σ := by
    intro n b ok h3 hh
    rw [P_X7_isSafe_l4]
    refine ⟨fun z => absurd ((nI_leI (a := 3) (by omega) (by omega)).mp z) (by omega), fun _ => ?_⟩
    rw [nI_1]
    cases ok with
    | false => exact ⟨fun _ => hh, fun z => absurd rfl z⟩
    | true =>
      rw [Bool.true_and] at hh
      refine ⟨fun z => absurd z (by decide), fun _ => m_lies M hw h3 ⟨fun z => ?_, fun z => m_unlikeAt O hw hp h3 ?_⟩⟩
      · have e : dB h s b = 0 := by unfold dB; rw [if_neg (by rw [z]; decide)]
        rw [e, decide_eq_true (Nat.zero_le _)] at hh; exact hh
      · have e : dst (tp h s b) (tp h s (b + 1)) = dB h s b := by unfold dB; rw [if_pos z]
        have d1 := dB_le hw hp h3
        rw [e, M.2.2.1, nI_ltI (by omega) (by omega)]
        refine ⟨fun y => ?_, fun y => ?_⟩
        · rw [decide_eq_false (by omega)] at hh; exact hh
        · rw [decide_eq_true (by omega)] at hh; exact hh
  refine stp 3 0 true (by omega) (stp 2 1 _ (by omega) (stp 1 2 _ (by omega) ?_))
  rw [P_X7_isSafe_l4]
  refine ⟨fun _ => ⟨bI_or _, ?_⟩, fun z => absurd (nI_le (a := 3) (b := 3) (by omega) (by omega)) z⟩
  have e : sf h s = (((true && decide (dB h s 0 ≤ hS h)) && decide (dB h s 1 ≤ hS h)) && decide (dB h s 2 ≤ hS h)) := by
    rw [Bool.eq_iff_iff, sf_iff]; simp [and_assoc]
  rw [← e]
  have e2 : ∀ b : Bool, nz (bI b) = b := by decide
  rw [e2]; exact hQ
theorem m_canPull {σ : St} {h : MH} (M : Ms σ 50 h) (O : Mo σ h) (hw : Wf h) {s w : Nat} (hp : prB h s = true) (h4 : w < 4) {Q : Bool → Prop} (hQ : Q (gs h s w && sf h (s - 8 ^ w))) : P_X7_canPull (nI s) (nI w) σ Q := by
  have hs := (prB_iff.mp hp).1
  have hlw := (prB_iff.mp hp).2 w h4
  have l0 := lf_lt s w
  unfold P_X7_canPull
  refine m_left hs h4 ⟨fun z => ?_, fun z => m_many M h4 ?_⟩
  · have e : ¬ 0 < lf s w := by have := (nI_leI (b := 0) (by omega) (by omega)).mp z; omega
    unfold gs at hQ
    rw [decide_eq_false e, Bool.false_and, Bool.false_and] at hQ; exact hQ
  · have hl : 0 < lf s w := by
      rcases Nat.eq_zero_or_pos (lf s w) with e | e
      · rw [e] at z; exact absurd (by decide) z
      · exact e
    rw [pk_sub hlw, un_I h4, pk_sub (lf_sub hs h4 hl h4).1]
    unfold gs at hQ
    rw [decide_eq_true hl, Bool.true_and] at hQ
    refine m_mayGo M hw h4 (by omega) hs ⟨fun y => ?_, fun y => m_isSafe M O hw (prB_sub hp h4 hl) ⟨fun x => ?_, fun x => ?_⟩⟩
    · rw [y, Bool.false_and] at hQ; exact hQ
    · rw [y, x] at hQ; exact hQ
    · rw [y, x] at hQ; exact hQ
theorem m_canPullNow {σ : St} {h : MH} (M : Ms σ 50 h) (hw : Wf h) {w : Nat} (h4 : w < 4) {Q : Bool → St → Prop} (hQ : ∀ τ, Fr inT σ τ → Q (gs h (now h) w && sf h (now h - 8 ^ w)) τ) : P_X7_canPullNow (nI w) σ Q := by
  unfold P_X7_canPullNow
  refine m_findTops M hw (fun τ F O => m_standNow (M.fr F (by decide)) hw (m_canPull (M.fr F (by decide)) O hw (prB_now hw) h4 (hQ τ F)))
theorem m_isStand {σ : St} {h : MH} (M : Ms σ 50 h) (hw : Wf h) {p : Int32} {Q : Bool → Prop} (hy : ∀ s, p = nI s → prB h s = true → Q true) (no : (∀ s, p = nI s → prB h s = true → False) → Q false) : P_X7_isStand p σ Q := by
  unfold P_X7_isStand
  refine m_in ?_
  by_cases c : (0 : Int32) ≤ p ∧ p ≤ 4095
  · rw [decide_eq_true c]
    obtain ⟨s, -, hs, rfl⟩ := rng (a := 0) (b := 4095) (by omega) (by omega) c
    have hs : s < 4096 := by omega
    refine ⟨5, ?_⟩
    have stp : ∀ (n w : Nat) (ok : Bool), w < 4 → P_X7_isStand_l11 (nI s) (fun k2 _ => Q k2) Q n (ok && decide (lf s w ≤ hC h w)) (nI (w + 1)) σ → P_X7_isStand_l11 (nI s) (fun k2 _ => Q k2) Q (n + 1) ok (nI w) σ := by
      intro n w ok h4 hh
      rw [P_X7_isStand_l11]
      refine ⟨fun z => absurd ((nI_leI (a := 4) (by omega) (by omega)).mp z) (by omega), fun _ => ?_⟩
      rw [nI_1]
      refine ⟨fun z => ?_, fun z => m_left hs h4 (m_many M h4 ?_)⟩
      · rw [z, Bool.false_and] at hh; exact hh
      · rw [z, Bool.true_and] at hh
        have b1 := lf_lt s w
        have b2 := (hw.1 w h4).1
        rw [nI_ltI (by omega) (by omega)]
        refine ⟨fun y => ?_, fun y => ?_⟩
        · rw [decide_eq_false (by omega)] at hh; exact hh
        · rw [decide_eq_true (by omega)] at hh; exact hh
    refine stp 4 0 true (by omega) (stp 3 1 _ (by omega) (stp 2 2 _ (by omega) (stp 1 3 _ (by omega) ?_)))
    rw [P_X7_isStand_l11]
    refine ⟨fun _ => ?_, fun z => absurd (nI_le (a := 4) (b := 4) (by omega) (by omega)) z⟩
    have e : ((((true && decide (lf s 0 ≤ hC h 0)) && decide (lf s 1 ≤ hC h 1)) && decide (lf s 2 ≤ hC h 2)) && decide (lf s 3 ≤ hC h 3)) = prB h s := by
      rw [Bool.eq_iff_iff]; unfold prB; simp [hs, and_assoc]
    rw [e]
    cases e3 : prB h s with
    | true => exact hy s rfl e3
    | false =>
      refine no (fun t e4 hp => ?_)
      have := (nI_eq (by omega) (by have := (prB_iff.mp hp).1; omega)).mp e4
      subst this
      rw [e3] at hp; cases hp
  · rw [decide_eq_false c]
    refine ⟨5, ?_⟩
    have stp : ∀ (n w : Nat), w < 4 → P_X7_isStand_l11 p (fun k2 _ => Q k2) Q n false (nI (w + 1)) σ → P_X7_isStand_l11 p (fun k2 _ => Q k2) Q (n + 1) false (nI w) σ := by
      intro n w h4 hh
      rw [P_X7_isStand_l11]
      refine ⟨fun z => absurd ((nI_leI (a := 4) (by omega) (by omega)).mp z) (by omega), fun _ => ?_⟩
      rw [nI_1]
      exact ⟨fun _ => hh, fun z => by cases z⟩
    refine stp 4 0 (by omega) (stp 3 1 (by omega) (stp 2 2 (by omega) (stp 1 3 (by omega) ?_)))
    rw [P_X7_isStand_l11]
    refine ⟨fun _ => no (fun s e hp => c ?_), fun z => absurd (nI_le (a := 4) (b := 4) (by omega) (by omega)) z⟩
    have hs := (prB_iff.mp hp).1
    rw [e]
    exact ⟨nI_pos' (by omega), nI_le (b := 4095) (by omega) (by omega)⟩
theorem m_paidIn {σ : St} {h : MH} (O : Mo σ h) {s : Nat} (hp : prB h s = true) {Q : Int32 → Prop} (hQ : Q (nI (pcoin h s))) : P_X7_paidIn (nI s) σ Q := by
  have hs := (prB_iff.mp hp).1
  unfold P_X7_paidIn
  refine ⟨5, ?_⟩
  have stp : ∀ n x w, w < 4 → P_X7_paidIn_l4 (nI s) (fun k2 _ => Q k2) Q n (nI (x + outC h w (hC h w - lf s w))) (nI (w + 1)) σ → P_X7_paidIn_l4 (nI s) (fun k2 _ => Q k2) Q (n + 1) (nI x) (nI w) σ := by
    intro n x w h4 hh
    have l1 := lf_lt s w
    rw [P_X7_paidIn_l4]
    refine ⟨fun z => absurd ((nI_leI (a := 4) (by omega) (by omega)).mp z) (by omega), fun _ => m_left hs h4 ?_⟩
    rw [show ((8 : Int32) * nI w) = nI (8 * w) from pk_mul 8 w, nI_add, nI_clamp (n := 8 * w + lf s w) (by omega), (O w h4 (lf s w) ((prB_iff.mp hp).2 w h4)).2, nI_add, nI_1]
    exact ⟨in_I (by omega) (by omega), hh⟩
  refine stp 4 0 0 (by omega) (stp 3 _ 1 (by omega) (stp 2 _ 2 (by omega) (stp 1 _ 3 (by omega) ?_)))
  rw [P_X7_paidIn_l4]
  refine ⟨fun _ => ?_, fun z => absurd (nI_le (a := 4) (b := 4) (by omega) (by omega)) z⟩
  simp only [Nat.zero_add]; exact hQ
theorem m_widest {σ : St} {h : MH} (M : Ms σ 50 h) (O : Mo σ h) (hw : Wf h) {s : Nat} (hp : prB h s = true) {Q : Int32 → Prop} (hQ : Q (nI (wd h s))) : P_X7_widest (nI s) σ Q := by
  unfold P_X7_widest
  refine ⟨4, ?_⟩
  have stp : ∀ n x b, b < 3 → x ≤ 230 → P_X7_widest_l4 (nI s) (fun k2 _ => Q k2) Q n (nI (max x (dB h s b))) (nI (b + 1)) σ → P_X7_widest_l4 (nI s) (fun k2 _ => Q k2) Q (n + 1) (nI x) (nI b) σ := by
    intro n x b h3 hx hh
    have d1 := dB_le hw hp h3
    rw [P_X7_widest_l4]
    refine ⟨fun z => absurd ((nI_leI (a := 3) (by omega) (by omega)).mp z) (by omega), fun _ => ?_⟩
    rw [nI_1]
    refine m_lies M hw h3 ⟨fun z => ?_, fun z => m_unlikeAt O hw hp h3 ?_⟩
    · have e : dB h s b = 0 := by unfold dB; rw [if_neg (by rw [z]; decide)]
      rw [e, Nat.max_eq_left (by omega)] at hh; exact hh
    · have e : dst (tp h s b) (tp h s (b + 1)) = dB h s b := by unfold dB; rw [if_pos z]
      rw [e, nI_leI (by omega) (by omega)]
      refine ⟨fun y => ?_, fun y => m_unlikeAt O hw hp h3 ?_⟩
      · rw [Nat.max_eq_left y] at hh; exact hh
      · rw [e]; rw [Nat.max_eq_right (by omega)] at hh; exact hh
  have d0 := dB_le hw hp (b := 0) (by omega)
  have d1 := dB_le hw hp (b := 1) (by omega)
  refine stp 3 0 0 (by omega) (by omega) (stp 2 _ 1 (by omega) (by omega) (stp 1 _ 2 (by omega) (by omega) ?_))
  rw [P_X7_widest_l4]
  refine ⟨fun _ => ?_, fun z => absurd (nI_le (a := 3) (b := 3) (by omega) (by omega)) z⟩
  rw [show max 0 (dB h s 0) = dB h s 0 by omega]; exact hQ
theorem m_mostUnlike {σ : St} {h : MH} (M : Ms σ 50 h) (hw : Wf h) {Q : Int32 → St → Prop} (hQ : ∀ τ, Fr inT σ τ → Q (nI (wd h (now h))) τ) : P_X7_mostUnlike σ Q := by
  unfold P_X7_mostUnlike
  refine m_findTops M hw (fun τ F O => ?_)
  have M' := M.fr F (by decide)
  have hp := prB_now hw
  refine ⟨4, ?_⟩
  have stp : ∀ n x b, b < 3 → x ≤ 230 → P_X7_mostUnlike_l8 (fun k1 t => Q k1 t) Q n (nI (max x (dB h (now h) b))) (nI (b + 1)) τ → P_X7_mostUnlike_l8 (fun k1 t => Q k1 t) Q (n + 1) (nI x) (nI b) τ := by
    intro n x b h3 hx hh
    have d1 := dB_le hw hp h3
    rw [P_X7_mostUnlike_l8]
    refine ⟨fun z => absurd ((nI_leI (a := 3) (by omega) (by omega)).mp z) (by omega), fun _ => ?_⟩
    rw [nI_1]
    refine m_lies M' hw h3 ⟨fun z => ⟨fun _ => ?_, fun y => absurd (nI_pos' (by omega)) y⟩, fun z => m_standNow M' hw (m_unlikeAt O hw hp h3 ?_)⟩
    · have e : dB h (now h) b = 0 := by unfold dB; rw [if_neg (by rw [z]; decide)]
      rw [e, Nat.max_eq_left (by omega)] at hh; exact hh
    · have e : dst (tp h (now h) b) (tp h (now h) (b + 1)) = dB h (now h) b := by unfold dB; rw [if_pos z]
      rw [e, nI_leI (by omega) (by omega)]
      refine ⟨fun y => ?_, fun y => ?_⟩
      · rw [Nat.max_eq_left y] at hh; exact hh
      · rw [Nat.max_eq_right (by omega)] at hh; exact hh
  have d0 := dB_le hw hp (b := 0) (by omega)
  have d1 := dB_le hw hp (b := 1) (by omega)
  refine stp 3 0 0 (by omega) (by omega) (stp 2 _ 1 (by omega) (by omega) (stp 1 _ 2 (by omega) (by omega) ?_))
  rw [P_X7_mostUnlike_l8]
  refine ⟨fun _ => ?_, fun z => absurd (nI_le (a := 3) (b := 3) (by omega) (by omega)) z⟩
  rw [show max 0 (dB h (now h) 0) = dB h (now h) 0 by omega]; exact hQ τ F
theorem m_allTops {σ : St} {h : MH} (M : Ms σ 50 h) (hw : Wf h) {Q : Int32 → St → Prop} (hQ : ∀ τ, Fr inT σ τ → Q (nI (allT h)) τ) : P_X7_allTops σ Q := by
  unfold P_X7_allTops
  refine m_findTops M hw (fun τ F O => ?_)
  have M' := M.fr F (by decide)
  refine ⟨5, ?_⟩
  have stp : ∀ n x w, w < 4 → P_X7_allTops_l8 (fun k1 t => Q k1 t) Q n (nI (x + topK h w (hC h w))) (nI (w + 1)) τ → P_X7_allTops_l8 (fun k1 t => Q k1 t) Q (n + 1) (nI x) (nI w) τ := by
    intro n x w h4 hh
    have hc7 := (hw.1 w h4).1
    rw [P_X7_allTops_l8]
    refine ⟨fun z => absurd ((nI_leI (a := 4) (by omega) (by omega)).mp z) (by omega), fun _ => m_many M' h4 ?_⟩
    rw [show ((8 : Int32) * nI w) = nI (8 * w) from pk_mul 8 w, nI_add, nI_clamp (n := 8 * w + hC h w) (by omega), (O w h4 (hC h w) (Nat.le_refl _)).1, nI_add, nI_1]
    exact ⟨in_I (by omega) (by omega), hh⟩
  refine stp 4 0 0 (by omega) (stp 3 _ 1 (by omega) (stp 2 _ 2 (by omega) (stp 1 _ 3 (by omega) ?_)))
  rw [P_X7_allTops_l8]
  refine ⟨fun _ => ?_, fun z => absurd (nI_le (a := 4) (b := 4) (by omega) (by omega)) z⟩
  simp only [Nat.zero_add]; exact hQ τ F
