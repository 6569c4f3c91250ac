/-! THE TEXT OF A HOUSE, the reference's side -/
abbrev inUs : Nat → Prop := fun k => k = 49 ∨ k = 50 ∨ k = 52 ∨ k = 53
theorem c49_Us (k : Nat) (z : isC 49 k) : inUs k := Or.inl z
theorem c50_Us (k : Nat) (z : isC 50 k) : inUs k := Or.inr (Or.inl z)
theorem inT_Us (k : Nat) (z : inT k) : inUs k := by omega
/-- the reference stands at a token, with a house in its row; good says g -/
def Us (σ : St) (n : Nat) (bs : Nat → Nat) (c : Int32) (h : MH) (p : Nat) (g : Int32) : Prop := Yr σ n bs ∧ Tr σ n bs c p ∧ Ms σ 50 h ∧ gI σ 49 15 = g
theorem Us.go {σ : St} {n : Nat} {bs : Nat → Nat} {c : Int32} {h : MH} {p : Nat} {g : Int32} (B : Bb n bs) (U : Us σ n bs c h p g) (hp : p ≤ n) {Q : St → Prop} (hQ : ∀ τ, Fr (isC 49) σ τ → Us τ n bs c h (nx n bs p) g → Q τ) : P_X7_advance σ Q :=
  m_nx B U.1 hp U.2.1 U.2.2.2 (fun τ F Y e T2 => hQ τ F ⟨Y, T2, U.2.2.1.fr F (by decide), e⟩)
theorem Us.word {σ : St} {n : Nat} {bs : Nat → Nat} {c : Int32} {h : MH} {p : Nat} {g : Int32} (U : Us σ n bs c h p g) (hp : p ≤ n) {i : Nat} (hi : i < 14) {v : Int64} (hv : v = lN (wcO i)) {Q : Bool → Prop} (q : Q (isW n bs p i)) : P_X7_isWord v σ Q := m_isWord hp U.2.1 hi hv q
theorem Us.ms {σ τ : St} {n : Nat} {bs : Nat → Nat} {c : Int32} {h h2 : MH} {p : Nat} {g : Int32} (U : Us σ n bs c h p g) (F : Fr (isC 50) σ τ) (M : Ms τ 50 h2) : Us τ n bs c h2 p g :=
  ⟨U.1.fr F (by decide), U.2.1.fr F (by decide), M, by rw [F.i (by decide)]; exact U.2.2.2⟩
theorem Us.fr {σ τ : St} {n : Nat} {bs : Nat → Nat} {c : Int32} {h : MH} {p : Nat} {g : Int32} (U : Us σ n bs c h p g) (F : Fr inT σ τ) : Us τ n bs c h p g :=
  ⟨U.1.fr F (by decide), U.2.1.fr F (by decide), U.2.2.1.fr F (by decide), by rw [F.i (by decide)]; exact U.2.2.2⟩
theorem Us.g {σ : St} {n : Nat} {bs : Nat → Nat} {c : Int32} {h : MH} {p : Nat} {g : Int32} (U : Us σ n bs c h p g) (v : Int32) : Us (sI σ 49 15 v) n bs c h p v :=
  ⟨fun j hj => by rw [gI_ne (by omega)]; exact U.1 j hj, U.2.1.g v, U.2.2.1.fr ((Fr.rf (S := isC 49)).sI rfl _ _) (by decide), gI_eq _ _ _ _⟩
theorem Us.v {σ : St} {n : Nat} {bs : Nat → Nat} {c : Int32} {h : MH} {p : Nat} {g : Int32} {a b : Nat} (U : Us σ n bs c h p g) (d : isNum n bs p a b = true) : gI σ 49 14 = nI (num n bs p) := U.2.1.2.2.2.2.2.2.1 (num_k d)
theorem F15 {σ : St} {v : Int32} : Fr inUs σ (sI σ 49 15 v) := Fr.rf.sI (Or.inl rfl) _ _
/-- its end -/
def Ue (σ : St) (n : Nat) (bs : Nat → Nat) (c : Int32) (r : R3) (Q : St → Prop) : Prop := ∀ τ, Fr inUs σ τ → Yr τ n bs → Tr τ n bs c r.2.2 → gI τ 49 15 = bI r.1 → (r.1 = true → Ms τ 50 r.2.1) → Q τ
theorem Ue.no {σ τ : St} {n : Nat} {bs : Nat → Nat} {c : Int32} {h h2 : MH} {p : Nat} {Q : St → Prop} (E : Ue σ n bs c (false, h2, p) Q) (F : Fr inUs σ τ) (U : Us τ n bs c h p 0) : Q τ := E τ F U.1 U.2.1 U.2.2.2 (fun z => absurd (show (false : Bool) = true from z) (by decide))
theorem Ue.yes {σ τ : St} {n : Nat} {bs : Nat → Nat} {c : Int32} {h : MH} {p : Nat} {Q : St → Prop} (E : Ue σ n bs c (true, h, p) Q) (F : Fr inUs σ τ) (U : Us τ n bs c h p 1) : Q τ := E τ F U.1 U.2.1 U.2.2.2 (fun _ => U.2.2.1)
theorem Ue.fr {σ τ : St} {n : Nat} {bs : Nat → Nat} {c : Int32} {r : R3} {Q : St → Prop} (E : Ue σ n bs c r Q) (F : Fr inUs σ τ) : Ue τ n bs c r Q := fun π G => E π (F.tr G)
theorem m_wantN {σ : St} {n : Nat} {bs : Nat → Nat} {c : Int32} (B : Bb n bs) {h : MH} {p : Nat} (U : Us σ n bs c h p 1) (hp : p ≤ n) {a b : Nat} (ha : a < 2 ^ 31) (hb : b < 2 ^ 31) {Q : Int32 → St → Prop}
    (yes : isNum n bs p a b = true → ∀ τ, Fr inUs σ τ → Us τ n bs c h (nx n bs p) 1 → Q (nI (num n bs p)) τ) (no : isNum n bs p a b = false → ∀ τ v, Fr inUs σ τ → Us τ n bs c h p 0 → Q v τ) : P_X7_wantNumber (nI a) (nI b) σ Q := by
  have k4 := tkK_lt n bs p
  have n4 := num_le n bs p
  have nn : isNum n bs p a b = false → ∀ s35, s35 = sI σ 49 15 0 → ((gI s35 49 15 = 0) → Q (gI σ 49 14) s35) ∧ ((¬ gI s35 49 15 = 0) → P_X7_advance s35 (fun t46 => Q (gI σ 49 14) t46)) := by
    intro d s35 e
    subst e
    exact ⟨fun _ => no d _ _ F15 (U.g 0), fun z => absurd (gI_eq _ _ _ _) z⟩
  unfold P_X7_wantNumber
  rw [U.2.2.2, U.2.1.2.2.1, rk_2 k4]
  refine ⟨fun z => absurd z (by decide), fun _ => ⟨fun z => nn ?_, fun z => ?_⟩⟩
  · unfold isNum; exact decide_eq_false (fun d => z d.1)
  · have v : gI σ 49 14 = nI (num n bs p) := U.2.1.2.2.2.2.2.2.1 z
    refine m_in ?_
    rw [v, dec_nI (by omega) ha hb]
    by_cases d : a ≤ num n bs p ∧ num n bs p ≤ b
    · rw [decide_eq_true d]
      have dt : isNum n bs p a b = true := isNum_iff.mpr ⟨z, d⟩
      refine bT (fun s35 e => ?_)
      subst e
      refine ⟨fun y => by rw [gI_eq] at y; exact absurd y (by decide), fun _ => (U.g 1).go B hp (fun τ F U1 => yes dt τ (F15.tr (F.mono c49_Us)) U1)⟩
    · rw [decide_eq_false d]
      rw [v] at nn
      exact bF (nn (decide_eq_false (fun q => d q.2)))
theorem m_wantN0 {σ : St} {n : Nat} {bs : Nat → Nat} {c : Int32} {h : MH} {p : Nat} (U : Us σ n bs c h p 0) {a b : Int32} {Q : Int32 → St → Prop} (no : ∀ τ v, Fr inUs σ τ → Us τ n bs c h p 0 → Q v τ) : P_X7_wantNumber a b σ Q := by
  unfold P_X7_wantNumber
  rw [U.2.2.2]
  refine ⟨fun _ s35 e => ?_, fun z => absurd rfl z⟩
  subst e
  exact ⟨fun _ => no _ _ F15 (U.g 0), fun z => absurd (gI_eq _ _ _ _) z⟩
theorem m_mayWant0 {σ : St} {n : Nat} {bs : Nat → Nat} {c : Int32} {h : MH} {p : Nat} (U : Us σ n bs c h p 0) {w : Int64} {a b o : Int32} {Q : Int32 → St → Prop} (q : Q o σ) : P_X7_mayWant w a b o σ Q := by
  unfold P_X7_mayWant
  rw [U.2.2.2]
  exact ⟨fun _ => q, fun z => absurd rfl z⟩
/-- a number behind a word -/
theorem m_mayWant {σ : St} {n : Nat} {bs : Nat → Nat} {c : Int32} (B : Bb n bs) {h : MH} {p : Nat} (U : Us σ n bs c h p 1) (hp : p ≤ n) {i : Nat} (hi : i < 14) {w : Int64} (hv : w = lN (wcO i)) {a b : Nat} (ha : a < 2 ^ 31) (hb : b < 2 ^ 31) {o : Int32} {Q : Int32 → St → Prop}
    (non : isW n bs p i = false → Q o σ) (yes : isW n bs p i = true → isNum n bs (nx n bs p) a b = true → ∀ τ, Fr inUs σ τ → Us τ n bs c h (nx n bs (nx n bs p)) 1 → Q (nI (num n bs (nx n bs p))) τ) (no : isW n bs p i = true → isNum n bs (nx n bs p) a b = false → ∀ τ v, Fr inUs σ τ → Us τ n bs c h (nx n bs p) 0 → Q v τ) : P_X7_mayWant w (nI a) (nI b) o σ Q := by
  unfold P_X7_mayWant
  rw [U.2.2.2]
  refine ⟨fun z => absurd z (by decide), fun _ => U.word hp hi hv ⟨fun z => U.go B hp (fun τ F U1 => ?_), fun z => non z⟩⟩
  exact m_wantN B U1 (nx_le hp) ha hb (fun y π G U2 => yes z y π ((F.mono c49_Us).tr G) U2) (fun y π v G U2 => no z y π v ((F.mono c49_Us).tr G) U2)
theorem m_price {σ : St} {n : Nat} {bs : Nat → Nat} {c : Int32} (B : Bb n bs) {h : MH} {p : Nat} (U : Us σ n bs c h p 1) (hp : p ≤ n) (hw : Wf h) {k w x : Nat} (h4 : w < 4) (hc : hC h w < 7) {Q : St → Prop} (E : Ue σ n bs c (pPr n bs k h w x p) Q) :
    P_X7_mayWant (8863997) (0) (999) (10) σ (fun r73 t73 => (((gI t73 49 15) = 0) → Q t73) ∧ ((¬ (gI t73 49 15) = 0) → P_X7_addStone (nI k) (nI w) (nI x) (r73) t73 (fun t91 => Q t91))) := by
  unfold pPr at E
  refine m_mayWant B U hp (i := 7) (by omega) rfl (a := 0) (b := 999) (by omega) (by omega) (fun z => ?_) (fun z y τ F U1 => ?_) (fun z y τ v F U1 => ?_)
  · rw [if_neg (by rw [z]; decide)] at E
    rw [U.2.2.2]
    exact ⟨fun z => absurd z (by decide), fun _ => m_addStone (p := 10) U.2.2.1 hw h4 hc (fun π G M => E.yes (G.mono c50_Us) (U.ms G M))⟩
  · rw [if_pos z, if_pos y] at E
    rw [U1.2.2.2]
    exact ⟨fun z => absurd z (by decide), fun _ => m_addStone U1.2.2.1 hw h4 hc (fun π G M => E.yes (F.tr (G.mono c50_Us)) (U1.ms G M))⟩
  · rw [if_pos z, if_neg (by rw [y]; decide)] at E
    rw [U1.2.2.2]
    exact ⟨fun _ => E.no F U1, fun z => absurd rfl z⟩
theorem m_price0 {σ : St} {n : Nat} {bs : Nat → Nat} {c : Int32} {h : MH} {p : Nat} (U : Us σ n bs c h p 0) {kI wI xI : Int32} {Q : St → Prop} (q : Q σ) :
    P_X7_mayWant (8863997) (0) (999) (10) σ (fun r73 t73 => (((gI t73 49 15) = 0) → Q t73) ∧ ((¬ (gI t73 49 15) = 0) → P_X7_addStone kI wI xI (r73) t73 (fun t91 => Q t91))) := by
  refine m_mayWant0 U ?_
  rw [U.2.2.2]
  exact ⟨fun _ => q, fun z => absurd rfl z⟩
theorem m_wantStone {σ : St} {n : Nat} {bs : Nat → Nat} {c : Int32} (B : Bb n bs) {h : MH} {p0 : Nat} (U0 : Us σ n bs c h p0 1) (hp0 : p0 ≤ n) (hw : Wf h) {k : Nat} {Q : St → Prop} (E : Ue σ n bs c (pSt n bs k h (nx n bs p0)) Q) : P_X7_wantStone (nI k) σ Q := by
  unfold P_X7_wantStone
  refine U0.go B hp0 (fun t1 F1 U => ?_)
  have hp := nx_le (bs := bs) hp0
  generalize nx n bs p0 = p at U hp E
  replace E := E.fr (F1.mono c49_Us)
  clear U0 F1
  have b := nx_le (bs := bs) hp
  have b2 := nx_le (bs := bs) b
  have b3 := nx_le (bs := bs) b2
  have k4 := tkK_lt n bs p
  have n4 := num_le n bs p
  have bad : ¬ (isNum n bs p 0 3 = true ∧ hC h (num n bs p) < 7) → P_X7_wantNumber (0) (3) (sI t1 49 15 0) (fun r47 t47 => P_X7_mayWant (164222) (1) (30) (5) t47 (fun r59 t59 => P_X7_mayWant (8863997) (0) (999) (10) t59 (fun r73 t73 => (((gI t73 49 15) = 0) → Q t73) ∧ ((¬ (gI t73 49 15) = 0) → P_X7_addStone (nI k) (r47) (r59) (r73) t73 (fun t91 => Q t91))))) := by
    intro d
    unfold pSt at E
    rw [if_neg d] at E
    exact m_wantN0 (U.g 0) (fun τ v F U1 => m_mayWant0 U1 (m_price0 U1 (E.no (F15.tr F) U1)))
  rw [U.2.1.2.2.1, rk_2 k4]
  refine ⟨fun z => bad (fun d => z (num_k d.1)), fun z => ?_⟩
  have v : gI t1 49 14 = nI (num n bs p) := U.2.1.2.2.2.2.2.2.1 z
  rw [v]
  by_cases w3 : num n bs p ≤ 3
  · have h4 : num n bs p < 4 := by omega
    have c7 := (hw.1 _ h4).1
    have dn : isNum n bs p 0 3 = true := isNum_iff.mpr ⟨z, by omega, w3⟩
    refine wam_y w3 (bT (m_many U.2.2.1 h4 ?_))
    rw [show ((7 : Int32) ≤ nI (hC h (num n bs p))) ↔ 7 ≤ hC h (num n bs p) from nI_leI (a := 7) (by omega) (by omega)]
    refine ⟨fun y => bad (fun d => by have := d.2; omega), fun y => ?_⟩
    have hc : hC h (num n bs p) < 7 := by omega
    unfold pSt at E
    rw [if_pos ⟨dn, hc⟩] at E
    unfold pHi at E
    refine m_wantN B (U.g 1) hp (a := 0) (b := 3) (by omega) (by omega) (fun _ τ F U1 => ?_) (fun d => by rw [dn] at d; exact absurd d (by decide))
    replace E := E.fr (F15.tr F)
    refine m_mayWant B U1 b (i := 6) (by omega) rfl (a := 1) (b := 30) (by omega) (by omega) (fun x => ?_) (fun x d ρ G U2 => ?_) (fun x d ρ u G U2 => ?_)
    · rw [if_neg (by rw [x]; decide)] at E
      exact m_price (x := 5) B U1 b hw h4 hc E
    · rw [if_pos x, if_pos d] at E
      exact m_price B U2 b3 hw h4 hc (E.fr G)
    · rw [if_pos x, if_neg (by rw [d]; decide)] at E
      exact m_price0 U2 (E.no G U2)
  · refine wam_n (fun j _ j3 e => ?_) (bF (bad (fun d => w3 (num_in d.1).2)))
    have := (nI_eq (by omega) (by omega)).mp e
    omega
theorem m_wantBeam {σ : St} {n : Nat} {bs : Nat → Nat} {c : Int32} (B : Bb n bs) {h : MH} {p0 : Nat} (U0 : Us σ n bs c h p0 1) (hp0 : p0 ≤ n) (hw : Wf h) {Q : St → Prop} (E : Ue σ n bs c (pBm n bs h (nx n bs p0)) Q) : P_X7_wantBeam σ Q := by
  unfold P_X7_wantBeam
  refine U0.go B hp0 (fun t1 F1 U => ?_)
  have hp := nx_le (bs := bs) hp0
  generalize nx n bs p0 = p at U hp E
  replace E := E.fr (F1.mono c49_Us)
  clear U0 F1
  have b := nx_le (bs := bs) hp
  unfold pBm at E
  refine m_wantN B U hp (a := 0) (b := 2) (by omega) (by omega) (fun z τ F U1 => ?_) (fun z τ v F U1 => ?_)
  · rw [if_pos z] at E
    have n3 : num n bs p < 3 := by have := (num_in z).2; omega
    rw [U1.2.2.2]
    refine ⟨fun z => absurd z (by decide), fun _ => U1.word b (i := 9) (by omega) rfl ⟨fun y => ⟨fun z => absurd z (by decide), fun _ => U1.word b (i := 10) (by omega) rfl ⟨fun x s61 e => ?_, fun x s61 e => ?_⟩⟩, fun y s61 e => ?_⟩⟩
    · rw [if_neg (by rw [y]; decide), if_neg (by rw [x]; decide)] at E
      subst e
      exact ⟨fun _ => E.no (F.tr F15) (U1.g 0), fun q => absurd (gI_eq _ _ _ _) q⟩
    · rw [if_neg (by rw [y]; decide), if_pos x] at E
      subst e
      refine ⟨fun q => by rw [gI_eq] at q; exact absurd q (by decide), fun _ => ?_⟩
      have U2 := U1.g 1
      rw [U2.2.2.1.2.1, bit_cl _ hw.2.1 _ n3]
      have F3 : Fr (isC 50) (sI τ 49 15 1) (sI (sI τ 49 15 1) 50 92 (nI (bclr (hB h) (num n bs p)))) := (Fr.rf (S := isC 50)).sI rfl _ _
      exact (U2.ms F3 (Ms_bm U2.2.2.1 hw _)).go B b (fun π G U3 => E.yes (((F.tr F15).tr (F3.mono c50_Us)).tr (G.mono c49_Us)) U3)
    · rw [if_pos y] at E
      subst e
      refine ⟨fun q => by rw [gI_eq] at q; exact absurd q (by decide), fun _ => ?_⟩
      have U2 := U1.g 1
      rw [U2.2.2.1.2.1, bit_or _ hw.2.1 _ n3]
      have F3 : Fr (isC 50) (sI τ 49 15 1) (sI (sI τ 49 15 1) 50 92 (nI (bset (hB h) (num n bs p)))) := (Fr.rf (S := isC 50)).sI rfl _ _
      exact (U2.ms F3 (Ms_bm U2.2.2.1 hw _)).go B b (fun π G U3 => E.yes (((F.tr F15).tr (F3.mono c50_Us)).tr (G.mono c49_Us)) U3)
  · rw [if_neg (by rw [z]; decide)] at E
    rw [U1.2.2.2]
    refine ⟨fun _ => ⟨fun _ s61 e => ?_, fun q => absurd rfl q⟩, fun q => absurd rfl q⟩
    subst e
    exact ⟨fun _ => E.no (F.tr F15) (U1.g 0), fun q => absurd (gI_eq _ _ _ _) q⟩
theorem m_wantWedge {σ : St} {n : Nat} {bs : Nat → Nat} {c : Int32} (B : Bb n bs) {h : MH} {p0 : Nat} (U0 : Us σ n bs c h p0 1) (hp0 : p0 ≤ n) (hw : Wf h) {Q : St → Prop} (E : Ue σ n bs c (pWe n bs h (nx n bs p0)) Q) : P_X7_wantWedge σ Q := by
  unfold P_X7_wantWedge
  refine U0.go B hp0 (fun t1 F1 U => ?_)
  have hp := nx_le (bs := bs) hp0
  generalize nx n bs p0 = p at U hp E
  replace E := E.fr (F1.mono c49_Us)
  clear U0 F1
  have b := nx_le (bs := bs) hp
  unfold pWe at E
  refine m_wantN B U hp (a := 0) (b := 3) (by omega) (by omega) (fun z τ F U1 => ?_) (fun z τ v F U1 => ?_)
  · rw [if_pos z] at E
    have n3 : num n bs p < 4 := by have := (num_in z).2; omega
    refine m_wantN B U1 b (a := 0) (b := 20) (by omega) (by omega) (fun y ρ G U2 => ?_) (fun y ρ v G U2 => ?_)
    · rw [if_pos y] at E
      rw [U2.2.2.2, show ((23 : Int32) * nI (num n bs p)) + 1 = nI (23 * num n bs p + 1) from e23 (j := 1), nI_clamp (by omega)]
      refine ⟨fun q => absurd q (by decide), fun _ => ⟨in_I (by omega) (by omega), ?_⟩⟩
      have F3 : Fr (isC 50) ρ (sI ρ 50 (23 * num n bs p + 1) (nI (num n bs (nx n bs p)))) := (Fr.rf (S := isC 50)).sI rfl _ _
      exact E.yes ((F.tr G).tr (F3.mono c50_Us)) (U2.ms F3 (Ms_we U2.2.2.1 hw n3 _))
    · rw [if_neg (by rw [y]; decide)] at E
      rw [U2.2.2.2]
      exact ⟨fun _ => E.no (F.tr G) U2, fun q => absurd rfl q⟩
  · rw [if_neg (by rw [z]; decide)] at E
    refine m_wantN0 U1 (fun ρ v G U2 => ?_)
    rw [U2.2.2.2]
    exact ⟨fun _ => E.no (F.tr G) U2, fun q => absurd rfl q⟩
theorem m_wantSlack {σ : St} {n : Nat} {bs : Nat → Nat} {c : Int32} (B : Bb n bs) {h : MH} {p0 : Nat} (U0 : Us σ n bs c h p0 1) (hp0 : p0 ≤ n) (hw : Wf h) {Q : St → Prop} (E : Ue σ n bs c (pSl n bs h (nx n bs p0)) Q) : P_X7_wantSlack σ Q := by
  unfold P_X7_wantSlack
  refine U0.go B hp0 (fun t1 F1 U => ?_)
  have hp := nx_le (bs := bs) hp0
  generalize nx n bs p0 = p at U hp E
  replace E := E.fr (F1.mono c49_Us)
  clear U0 F1
  unfold pSl at E
  refine m_wantN B U hp (a := 0) (b := 99) (by omega) (by omega) (fun z τ F U1 => ?_) (fun z τ v F U1 => ?_)
  · rw [if_pos z] at E
    rw [U1.2.2.2]
    have F3 : Fr (isC 50) τ (sI τ 50 93 (nI (num n bs p))) := (Fr.rf (S := isC 50)).sI rfl _ _
    exact ⟨fun q => absurd q (by decide), fun _ => E.yes (F.tr (F3.mono c50_Us)) (U1.ms F3 (Ms_sl U1.2.2.1 hw _))⟩
  · rw [if_neg (by rw [z]; decide)] at E
    rw [U1.2.2.2]
    exact ⟨fun _ => E.no F U1, fun q => absurd rfl q⟩
