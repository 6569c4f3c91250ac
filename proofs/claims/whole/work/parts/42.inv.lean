/-! WHAT TIES THE CLASS TO THE REFERENCE -/
def Kp (σ : St) : Prop := ∃ b, b ≤ 1 ∧ gI σ 0 8 = nI b ∧ gI σ 49 22 = nI b ∧ (b = 1 → ∃ k, Wf k ∧ hN k ≤ 999 ∧ Hs σ 7 k ∧ Ms σ 63 k)
def Tp (σ : St) : Prop := ∃ (n : Nat) (bs : Nat → Nat), n ≤ 120 ∧ gI σ 27 1 = nI n ∧ gI σ 49 9 = nI n ∧ ∀ j, j < n → bs j < 256 ∧ gI σ 28 j = nI (bs j) ∧ gI σ 58 j = nI (bs j)
def Sh (σ : St) : Prop := ∃ B Z : Nat → Nat, ∀ s, s < 4 → (B s = 0 ∨ B s = 8 ∨ B s = 16 ∨ B s = 64) ∧ Z s ≤ 40 ∧ gI σ (41 + 2 * s) 1 = nI (B s) ∧ gI σ 59 s = nI (B s) ∧ gI σ (41 + 2 * s) 2 = nI (Z s) ∧ gI σ 60 s = nI (Z s) ∧ ∀ j, j < 40 → gL σ (41 + 2 * s + 1) j = gL σ 61 (40 * s + j)
def Rest (σ : St) : Prop := Kp σ ∧ Tp σ ∧ Sh σ
abbrev rs : Nat → Prop := fun k => (1 ≤ k ∧ k ≤ 6) ∨ (13 ≤ k ∧ k ≤ 26) ∨ (29 ≤ k ∧ k ≤ 40) ∨ (50 ≤ k ∧ k ≤ 57) ∨ k = 62 ∨ k = 64
theorem Kp.fr {σ τ : St} (H : Kp σ) (F : Fr rs σ τ) : Kp τ := by
  obtain ⟨b, h1, h2, h3, h4⟩ := H
  refine ⟨b, h1, by rw [F.i (by decide)]; exact h2, by rw [F.i (by decide)]; exact h3, fun e => ?_⟩
  obtain ⟨k, k1, k2, k3, k4⟩ := h4 e
  exact ⟨k, k1, k2, k3.fr F (fun j hj z => by omega), k4.fr F (by decide)⟩
theorem Tp.fr {σ τ : St} (H : Tp σ) (F : Fr rs σ τ) : Tp τ := by
  obtain ⟨n, bs, h1, h2, h3, h4⟩ := H
  refine ⟨n, bs, h1, by rw [F.i (by decide)]; exact h2, by rw [F.i (by decide)]; exact h3, fun j hj => ?_⟩
  rw [F.i (k := 28) (by decide), F.i (k := 58) (by decide)]
  exact h4 j hj
theorem Sh.fr {σ τ : St} (H : Sh σ) (F : Fr rs σ τ) : Sh τ := by
  obtain ⟨B, Z, H⟩ := H
  refine ⟨B, Z, fun s hs => ?_⟩
  rw [F.i (k := 41 + 2 * s) (fun z => by omega), F.i (k := 59) (by decide), F.i (k := 41 + 2 * s) (fun z => by omega), F.i (k := 60) (by decide)]
  obtain ⟨a1, a2, a3, a4, a5, a6, a7⟩ := H s hs
  refine ⟨a1, a2, a3, a4, a5, a6, fun j hj => ?_⟩
  rw [F.l (k := 41 + 2 * s + 1) (fun z => by omega), F.l (k := 61) (by decide)]
  exact a7 j hj
theorem Rest.fr {σ τ : St} (H : Rest σ) (F : Fr rs σ τ) : Rest τ := ⟨H.1.fr F, H.2.1.fr F, H.2.2.fr F⟩
/-- the same house on both sides -/
def Re (σ : St) (h : MH) : Prop := Wf h ∧ hN h ≤ 999 ∧ Hs σ 1 h ∧ Ms σ 50 h ∧ Rest σ
/-- what a call may write that leaves the house -/
abbrev sc : Nat → Prop := fun k => (13 ≤ k ∧ k ≤ 26) ∨ (29 ≤ k ∧ k ≤ 38) ∨ (52 ≤ k ∧ k ≤ 57) ∨ k = 62 ∨ k = 64
abbrev scF : Nat → Prop := fun k => (13 ≤ k ∧ k ≤ 26) ∨ (29 ≤ k ∧ k ≤ 40) ∨ (51 ≤ k ∧ k ≤ 57) ∨ k = 62 ∨ k = 64
theorem Re.fr {σ τ : St} {h : MH} (R : Re σ h) (F : Fr scF σ τ) : Re τ h :=
  ⟨R.1, R.2.1, R.2.2.1.fr F (fun j hj z => by omega), R.2.2.2.1.fr F (by decide), R.2.2.2.2.fr (F.mono (fun k z => by omega))⟩
def Fdd (σ : St) : Prop := ∀ j, j < 7 → gI σ 40 j = gI σ 51 j
def Fe (σ : St) (i : Nat) : Prop := ∀ j, j < 7 → gI σ 40 j = gI σ 51 j + if j = i then 1 else 0
theorem Fdd.fr {σ τ : St} {S : Nat → Prop} (D : Fdd σ) (F : Fr S σ τ) (h1 : ¬ S 40) (h2 : ¬ S 51) : Fdd τ := fun j hj => by rw [F.i h1, F.i h2]; exact D j hj
theorem Fe.fr {σ τ : St} {i : Nat} {S : Nat → Prop} (D : Fe σ i) (F : Fr S σ τ) (h1 : ¬ S 40) (h2 : ¬ S 51) : Fe τ i := fun j hj => by rw [F.i h1, F.i h2]; exact D j hj
def Inv (σ : St) : Prop := ∃ h, Re σ h ∧ Fdd σ
theorem Inv.fr {σ τ : St} (I : Inv σ) (F : Fr sc σ τ) : Inv τ := by
  obtain ⟨h, R, D⟩ := I
  exact ⟨h, R.fr (F.mono (fun k z => by omega)), D.fr F (by decide) (by decide)⟩
theorem ff {σ : St} {h : MH} {c : Int32} {i : Nat} (hi : i < 7) (hc : (-1000000001 : Int32) - c = nI i) (R : Re σ h) (D : Fdd σ) {X : Int32 → St → Prop} (kk : ∀ τ, Fr (isC 40) σ τ → Re τ h → Fe τ i → X c τ) : P_X6_finding c σ X := by
  unfold P_X6_finding
  rw [hc, nI_clamp (by omega)]
  refine s_within ?_
  rw [show decide ((0 : Int32) ≤ nI i ∧ nI i ≤ 6) = true from decide_eq_true ⟨nI_pos' (by omega), nI_le (b := 6) (by omega) (by omega)⟩]
  refine ⟨fun z => absurd z (by decide), fun _ => ⟨in_I (by omega) (by omega), in_I (by omega) (by omega), kk _ ((Fr.rf (S := isC 40)).sI rfl _ _) (R.fr ((Fr.rf (S := scF)).sI (by decide) _ _)) ?_⟩⟩
  intro j hj
  rw [gI_ne (a := 40) (b := 51) (by omega), ← D j hj]
  by_cases e : j = i
  · subst e; rw [gI_eq, if_pos rfl]
  · rw [gI_ne (by omega), if_neg e, Int32.add_zero]
theorem fm {σ : St} {h : MH} {c : Int32} {i : Nat} (hi : i < 7) (hc : (-1000000001 : Int32) - c = nI i) (R : Re σ h) (D : Fe σ i) {X : Int32 → St → Prop} (kk : ∀ τ, Inv τ → X c τ) : P_X7_finds c σ X := by
  unfold P_X7_finds
  rw [hc, nI_clamp (by omega)]
  refine ⟨in_I (by omega) (by omega), in_I (by omega) (by omega), kk _ ⟨h, R.fr ((Fr.rf (S := scF)).sI (by decide) _ _), ?_⟩⟩
  intro j hj
  rw [gI_ne (a := 51) (b := 40) (by omega), D j hj]
  by_cases e : j = i
  · subst e; rw [gI_eq, if_pos rfl]
  · rw [gI_ne (by omega), if_neg e, Int32.add_zero]
/-- ranges -/
theorem rn (p : Int32) (a b : Nat) : (∃ j, a ≤ j ∧ j ≤ b ∧ p = nI j) ∨ (∀ j, a ≤ j → j ≤ b → p ≠ nI j) := by
  by_cases e : ∃ j, a ≤ j ∧ j ≤ b ∧ p = nI j
  · exact Or.inl e
  · exact Or.inr (fun j h1 h2 z => e ⟨j, h1, h2, z⟩)
theorem wi_y {σ : St} {a b j : Nat} {Q : Bool → Prop} (h1 : a ≤ j) (h2 : j ≤ b) (hb : b < 2 ^ 31) (q : Q true) : P_X6_isWithin (nI j) (nI a) (nI b) σ Q :=
  s_within (by rw [dec_nI (by omega) (by omega) hb, decide_eq_true ⟨h1, h2⟩]; exact q)
theorem wi_n {σ : St} {p : Int32} {a b : Nat} {Q : Bool → Prop} (ha : a < 2 ^ 31) (hb : b < 2 ^ 31) (no : ∀ j, a ≤ j → j ≤ b → p ≠ nI j) (q : Q false) : P_X6_isWithin p (nI a) (nI b) σ Q :=
  s_within (by
    rw [decide_eq_false (fun z => ?_)]; exact q
    obtain ⟨j, h1, h2, h3⟩ := rng ha hb z
    exact no j h1 h2 h3)
theorem in_y {σ : St} {a b j : Nat} {Q : Bool → Prop} (h1 : a ≤ j) (h2 : j ≤ b) (hb : b < 2 ^ 31) (q : Q true) : P_X7_in (nI j) (nI a) (nI b) σ Q :=
  m_in (by rw [dec_nI (by omega) (by omega) hb, decide_eq_true ⟨h1, h2⟩]; exact q)
theorem in_n {σ : St} {p : Int32} {a b : Nat} {Q : Bool → Prop} (ha : a < 2 ^ 31) (hb : b < 2 ^ 31) (no : ∀ j, a ≤ j → j ≤ b → p ≠ nI j) (q : Q false) : P_X7_in p (nI a) (nI b) σ Q :=
  m_in (by
    rw [decide_eq_false (fun z => ?_)]; exact q
    obtain ⟨j, h1, h2, h3⟩ := rng ha hb z
    exact no j h1 h2 h3)
theorem wa_y {σ : St} {w : Nat} (h4 : w ≤ 3) {Q : Bool → Prop} (q : Q true) : P_X6_isWall (nI w) σ Q := wi_y (a := 0) (b := 3) (Nat.zero_le _) h4 (by omega) q
theorem wa_n {σ : St} {p : Int32} (no : ∀ j, 0 ≤ j → j ≤ 3 → p ≠ nI j) {Q : Bool → Prop} (q : Q false) : P_X6_isWall p σ Q := wi_n (a := 0) (b := 3) (by omega) (by omega) no q
theorem ki_y {σ : St} {w : Nat} (h4 : w ≤ 5) {Q : Bool → Prop} (q : Q true) : P_X6_isKind (nI w) σ Q := wi_y (a := 0) (b := 5) (Nat.zero_le _) h4 (by omega) q
theorem ki_n {σ : St} {p : Int32} (no : ∀ j, 0 ≤ j → j ≤ 5 → p ≠ nI j) {Q : Bool → Prop} (q : Q false) : P_X6_isKind p σ Q := wi_n (a := 0) (b := 5) (by omega) (by omega) no q
theorem hg_y {σ : St} {w : Nat} (h1 : 1 ≤ w) (h4 : w ≤ 30) {Q : Bool → Prop} (q : Q true) : P_X6_isHigh (nI w) σ Q := wi_y (a := 1) (b := 30) h1 h4 (by omega) q
theorem hg_n {σ : St} {p : Int32} (no : ∀ j, 1 ≤ j → j ≤ 30 → p ≠ nI j) {Q : Bool → Prop} (q : Q false) : P_X6_isHigh p σ Q := wi_n (a := 1) (b := 30) (by omega) (by omega) no q
theorem wam_y {σ : St} {w : Nat} (h4 : w ≤ 3) {Q : Bool → Prop} (q : Q true) : P_X7_isWall (nI w) σ Q := in_y (a := 0) (b := 3) (Nat.zero_le _) h4 (by omega) q
theorem wam_n {σ : St} {p : Int32} (no : ∀ j, 0 ≤ j → j ≤ 3 → p ≠ nI j) {Q : Bool → Prop} (q : Q false) : P_X7_isWall p σ Q := in_n (a := 0) (b := 3) (by omega) (by omega) no q
theorem kim_y {σ : St} {w : Nat} (h4 : w ≤ 5) {Q : Bool → Prop} (q : Q true) : P_X7_isKind (nI w) σ Q := in_y (a := 0) (b := 5) (Nat.zero_le _) h4 (by omega) q
theorem kim_n {σ : St} {p : Int32} (no : ∀ j, 0 ≤ j → j ≤ 5 → p ≠ nI j) {Q : Bool → Prop} (q : Q false) : P_X7_isKind p σ Q := in_n (a := 0) (b := 5) (by omega) (by omega) no q
theorem bT {Q R : Prop} (q : R) : ((true = false) → Q) ∧ ((true = true) → R) := ⟨fun z => absurd z (by decide), fun _ => q⟩
theorem bT' {Q R : Prop} (q : Q) : ((true = true) → Q) ∧ ((true = false) → R) := ⟨fun _ => q, fun z => absurd z (by decide)⟩
theorem bF {Q R : Prop} (q : Q) : ((false = false) → Q) ∧ ((false = true) → R) := ⟨fun _ => q, fun z => absurd z (by decide)⟩
theorem bF' {Q R : Prop} (q : R) : ((false = true) → Q) ∧ ((false = false) → R) := ⟨fun z => absurd z (by decide), fun _ => q⟩
/-- a stone that is there -/
theorem stc (h : MH) (p q : Int32) : (∃ w i, w < 4 ∧ i < hC h w ∧ p = nI w ∧ q = nI i) ∨ (∀ w i, w < 4 → i < hC h w → p = nI w → q ≠ nI i) := by
  by_cases e : ∃ w i, w < 4 ∧ i < hC h w ∧ p = nI w ∧ q = nI i
  · exact Or.inl e
  · exact Or.inr (fun w i h1 h2 h3 h4 => e ⟨w, i, h1, h2, h3, h4⟩)
theorem cm1 {c : Nat} {p : Int32} (hc : c ≤ 7) (z : (0 : Int32) ≤ p ∧ p ≤ nI c - 1) : ∃ i, i < c ∧ p = nI i := by
  cases c with
  | zero => exact absurd (Int32.le_trans z.1 z.2) (by decide)
  | succ c =>
    rw [nI_pred] at z
    obtain ⟨j, h1, h2, h3⟩ := rng (a := 0) (b := c) (by omega) (by omega) z
    exact ⟨j, by omega, h3⟩
theorem cm2 {c i : Nat} (hc : c ≤ 40) (hi : i < c) : (0 : Int32) ≤ nI i ∧ nI i ≤ nI c - 1 := by
  cases c with
  | zero => omega
  | succ c => rw [nI_pred]; exact ⟨nI_pos' (by omega), nI_le (by omega) (by omega)⟩
theorem st_y {σ : St} {h : MH} (H : Hs σ 1 h) (hw : Wf h) {w i : Nat} (h4 : w < 4) (hi : i < hC h w) {Q : Bool → Prop} (q : Q true) : P_X6_isStone (nI w) (nI i) σ Q := by
  have c7 := (hw.1 w h4).1
  unfold P_X6_isStone
  refine wa_y (by omega) (bT ⟨in_I (by omega) (by omega), s_within ?_⟩)
  rw [nI_clamp (by omega), (H.1 w h4).1, decide_eq_true (cm2 (by omega) hi)]
  exact bT q
theorem st_n {σ : St} {h : MH} (H : Hs σ 1 h) (hw : Wf h) {p r : Int32} (no : ∀ w i, w < 4 → i < hC h w → p = nI w → r ≠ nI i) {Q : Bool → Prop} (q : Q false) : P_X6_isStone p r σ Q := by
  unfold P_X6_isStone
  rcases rn p 0 3 with ⟨w, _, h3, rfl⟩ | nw
  · have h4 : w < 4 := by omega
    have c7 := (hw.1 w h4).1
    refine wa_y (by omega) (bT ⟨in_I (by omega) (by omega), s_within ?_⟩)
    rw [nI_clamp (by omega), (H.1 w h4).1, decide_eq_false (fun z => ?_)]
    · exact bF q
    · obtain ⟨i, h1, h2⟩ := cm1 c7 z
      exact no w i h4 h1 rfl h2
  · exact wa_n nw (bF q)
theorem stm_y {σ : St} {h : MH} (M : Ms σ 50 h) (hw : Wf h) {w i : Nat} (h4 : w < 4) (hi : i < hC h w) {Q : Bool → Prop} (q : Q true) : P_X7_isStone (nI w) (nI i) σ Q := by
  have c7 := (hw.1 w h4).1
  unfold P_X7_isStone
  refine wam_y (by omega) (bT (m_many M h4 (m_in ?_)))
  rw [decide_eq_true (cm2 (by omega) hi)]
  exact bT q
theorem stm_n {σ : St} {h : MH} (M : Ms σ 50 h) (hw : Wf h) {p r : Int32} (no : ∀ w i, w < 4 → i < hC h w → p = nI w → r ≠ nI i) {Q : Bool → Prop} (q : Q false) : P_X7_isStone p r σ Q := by
  unfold P_X7_isStone
  rcases rn p 0 3 with ⟨w, _, h3, rfl⟩ | nw
  · have h4 : w < 4 := by omega
    have c7 := (hw.1 w h4).1
    refine wam_y (by omega) (bT (m_many M h4 (m_in ?_)))
    rw [decide_eq_false (fun z => ?_)]
    · exact bF q
    · obtain ⟨i, h1, h2⟩ := cm1 c7 z
      exact no w i h4 h1 rfl h2
  · exact wam_n nw (bF q)
/-- what is claimed of a pair of calls -/
abbrev Same (P : (Int32 → St → Prop) → Prop) (P2 : St → (Int32 → St → Prop) → Prop) : Prop := P (fun r τ => P2 τ (fun r' τ' => r = r' ∧ Inv τ'))
abbrev SameL (P : (Int64 → St → Prop) → Prop) (P2 : St → (Int64 → St → Prop) → Prop) : Prop := P (fun r τ => P2 τ (fun r' τ' => r = r' ∧ Inv τ'))
theorem pp_stone {σ : St} (I : Inv σ) (p0 p1 p2 : Int32) : Same (P_X6_stone p0 p1 p2 σ) (P_X7_stone p0 p1 p2) := by
  obtain ⟨h, R, D⟩ := I
  have R2 := R
  obtain ⟨hw, hn, H, M, K⟩ := R2
  unfold Same P_X6_stone
  have bad : (∀ τ X, P_X7_finds (-1000000001) τ X → P_X7_stone p0 p1 p2 τ X) → P_X6_finding (-1000000001) σ (fun r τ => P_X7_stone p0 p1 p2 τ (fun r' τ' => r = r' ∧ Inv τ')) :=
    fun b => ff (i := 0) (by omega) (by decide) R D (fun τ _ Rτ E => b _ _ (fm (i := 0) (by omega) (by decide) Rτ E (fun π J => ⟨rfl, J⟩)))
  rcases rn p0 0 5 with ⟨k, _, k5, rfl⟩ | nk
  · refine ki_y k5 (bT ?_)
    rcases rn p1 0 3 with ⟨w, _, w3, rfl⟩ | nw
    · refine wa_y w3 (bT ?_)
      have h4 : w < 4 := by omega
      have c7 := (hw.1 w h4).1
      rcases rn p2 1 30 with ⟨x, x1, x30, rfl⟩ | nx
      · refine hg_y x1 x30 (bT' ⟨in_I (by omega) (by omega), ?_⟩)
        rw [nI_clamp (by omega), (H.1 w h4).1]
        refine ⟨fun z => ?_, fun z => ?_⟩
        · have hc : hC h w < 7 := (nI_ltI (b := 7) (by omega) (by omega)).mp z
          refine s_put (p := 10) H hw h4 hc (fun τ F Hτ => ⟨in_I (by omega) (by omega), ?_⟩)
          have Mτ := M.fr F (fun z => by have := z.2; omega)
          unfold P_X7_stone
          refine kim_y k5 (bT (wam_y w3 (bT (in_y (a := 1) (b := 30) x1 x30 (by omega) (bT' (m_many Mτ h4 ⟨fun _ => ?_, fun y => ?_⟩))))))
          · refine m_addStone (p := 10) Mτ hw h4 hc (fun π G Mπ => ?_)
            refine m_many Mπ h4 ⟨?_, hput h k w x 10, ⟨wf_put hw hc (by omega) x30 (by omega), hn, Hτ.fr G (fun j hj (z : 1 + j = 50) => by omega), Mπ, (K.fr (F.mono (fun k z => by omega))).fr (G.mono (fun k z => by omega))⟩, (D.fr F (by decide) (by decide)).fr G (by decide) (by decide)⟩
            show gI τ 5 w - 1 = _
            rw [show gI τ 5 w = nI (hC (hput h k w x 10) w) from (Hτ.1 w h4).1]
          · have := (nI_eq (b := 7) (by omega) (by omega)).mp y; omega
        · refine ff (i := 1) (by omega) (by decide) R D (fun τ F Rτ E => ?_)
          unfold P_X7_stone
          have e7 : hC h w = 7 := by have := mt (nI_ltI (b := 7) (by omega) (by omega)).mpr z; omega
          refine kim_y k5 (bT (wam_y w3 (bT (in_y (a := 1) (b := 30) x1 x30 (by omega) (bT' (m_many Rτ.2.2.2.1 h4 ⟨fun y => absurd (by rw [e7]; rfl) y, fun _ => ?_⟩))))))
          exact fm (i := 1) (by omega) (by decide) Rτ E (fun π J => ⟨rfl, J⟩)
      · refine hg_n nx (bF' (bad (fun τ X b => ?_)))
        unfold P_X7_stone
        exact kim_y k5 (bT (wam_y w3 (bT (in_n (a := 1) (b := 30) (by omega) (by omega) nx (bF' b)))))
    · refine wa_n nw (bF (bad (fun τ X b => ?_)))
      unfold P_X7_stone
      exact kim_y k5 (bT (wam_n nw (bF b)))
  · refine ki_n nk (bF (bad (fun τ X b => ?_)))
    unfold P_X7_stone
    exact kim_n nk (bF b)
