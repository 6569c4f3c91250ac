/-! THE TEXT OF A HOUSE, the reference's items -/
theorem pPu_e {n : Nat} {bs : Nat → Nat} {f : Nat} {h : MH} {p : Nat} (k : tkK n bs p ≠ 2) : pPu n bs f h p = (true, h, p) := by
  cases f with
  | zero => rfl
  | succ f => simp only [pPu]; rw [if_neg k]
theorem m_pulls6 {σ : St} {n : Nat} {bs : Nat → Nat} {c : Int32} (B : Bb n bs) {K Q : St → Prop} {r : R3} (E : Ue σ n bs c r K) :
    ∀ f (h : MH) p (θ : St), n - p ≤ f → p ≤ n → tkK n bs p = 2 → Fr inUs σ θ → Us θ n bs c h p 1 → Wf h → pPu n bs f h p = r → P_X7_wantPulls_l6 K Q (f + 1) 1 θ := by
  have h1 := B.1
  have fin : ∀ m θ, K θ → P_X7_wantPulls_l6 K Q (m + 1) 0 θ := fun m θ q => by
    rw [P_X7_wantPulls_l6]; exact ⟨fun _ => q, fun z => absurd rfl z⟩
  intro f
  induction f with
  | zero =>
    intro h p θ hf hp k
    have := tk_lt (bs := bs) (show tkK n bs p ≠ 0 by omega)
    omega
  | succ f ih =>
    intro h p θ hf hp k F U hw e
    have plt := tk_lt (bs := bs) (show tkK n bs p ≠ 0 by omega)
    have k4 := tkK_lt n bs p
    have n4 := num_le n bs p
    have gt := nx_gt (bs := bs) plt
    simp only [pPu] at e
    rw [if_pos k] at e
    have v : gI θ 49 14 = nI (num n bs p) := U.2.1.2.2.2.2.2.2.1 k
    have stop : ∀ π, Fr inUs σ π → Us π n bs c h p 1 → ¬ (isNum n bs p 0 3 = true ∧ cpB h (num n bs p) = true) → P_X7_wantPulls_l6 K Q (f + 1) 0 (sI π 49 15 0) := by
      intro π G U1 d
      rw [if_neg d] at e
      rw [← e] at E
      exact fin f _ (E.no (G.tr F15) (U1.g 0))
    rw [P_X7_wantPulls_l6, U.2.2.2, U.2.1.2.2.1, rk_2 k4, v]
    refine ⟨fun z => absurd z (by decide), fun _ => ⟨fun z => absurd z (by decide), fun _ => ⟨fun z => absurd k z, fun _ => ?_⟩⟩⟩
    by_cases w3 : num n bs p ≤ 3
    · have h4 : num n bs p < 4 := by omega
      have dn : isNum n bs p 0 3 = true := isNum_iff.mpr ⟨k, by omega, w3⟩
      refine wam_y w3 (bT (m_canPullNow U.2.2.1 hw h4 (fun τ G => ?_)))
      have U1 := U.fr G
      have F1 := F.tr (G.mono inT_Us)
      cases hc : gs h (now h) (num n bs p) && sf h (now h - 8 ^ num n bs p)
      · refine bF (fun s52 es => ?_)
        subst es
        have st := stop τ F1 U1 (fun d => by have := d.2; unfold cpB at this; rw [hc] at this; exact absurd this (by decide))
        refine ⟨fun _ => ⟨fun _ => st, fun z => absurd (gI_eq _ _ _ _) z⟩, fun z => absurd (gI_eq _ _ _ _) z⟩
      · have hl := cpB_c hw h4 hc
        rw [if_pos ⟨dn, hc⟩] at e
        refine bT (fun s52 es => ?_)
        subst es
        have U2 := U1.g 1
        have v2 : gI (sI τ 49 15 1) 49 14 = nI (num n bs p) := U2.2.1.2.2.2.2.2.2.1 k
        rw [v2]
        refine ⟨fun z => by rw [gI_eq] at z; exact absurd z (by decide), fun _ => m_takeOut U2.2.2.1 hw h4 hl (fun ρ G2 M2 => (U2.ms G2 M2).go B hp (fun π G3 U3 => ?_))⟩
        have F3 : Fr inUs σ π := ((F1.tr F15).tr (G2.mono c50_Us)).tr (G3.mono c49_Us)
        rw [U3.2.2.2, U3.2.1.2.2.1, rk_2 (tkK_lt n bs _)]
        refine ⟨fun z => absurd z (by decide), fun _ => ⟨fun z => fin f π ?_, fun z => ih _ _ π (by omega) (nx_le hp) z F3 U3 (wf_take hw hl) e⟩⟩
        rw [pPu_e z] at e
        rw [← e] at E
        exact E.yes F3 U3
    · refine wam_n (fun j _ j3 e => ?_) (bF (fun s52 es => ?_))
      · have := (nI_eq (by omega) (by omega)).mp e
        omega
      · subst es
        have st := stop θ F U (fun d => w3 (num_in d.1).2)
        exact ⟨fun _ => ⟨fun _ => st, fun z => absurd (gI_eq _ _ _ _) z⟩, fun z => absurd (gI_eq _ _ _ _) z⟩
theorem m_wantPulls {σ : St} {n : Nat} {bs : Nat → Nat} {c : Int32} (B : Bb n bs) {h : MH} {p0 : Nat} (U0 : Us σ n bs c h p0 1) (hp0 : p0 ≤ n) (hw : Wf h) {Q : St → Prop} (E : Ue σ n bs c (pPl n bs h (nx n bs p0)) Q) : P_X7_wantPulls σ Q := by
  unfold P_X7_wantPulls
  refine U0.go B hp0 (fun t1 F1 U => ?_)
  have hp := nx_le (bs := bs) hp0
  generalize nx n bs p0 = p at U hp E
  replace E := E.fr (F1.mono c49_Us)
  clear U0 F1
  have k4 := tkK_lt n bs p
  unfold pPl at E
  by_cases k : tkK n bs p = 2
  · rw [if_pos k] at E
    exact ⟨n - p + 1, m_pulls6 (K := fun t98 => Q t98) B E (n - p) h p t1 (Nat.le_refl _) hp k Fr.rf U hw rfl⟩
  · rw [if_neg k] at E
    refine ⟨2, ?_⟩
    rw [P_X7_wantPulls_l6, U.2.2.2, U.2.1.2.2.1, rk_2 k4]
    refine ⟨fun z => absurd z (by decide), fun _ => ⟨fun z => absurd z (by decide), fun _ => ⟨fun _ s52 es => ?_, fun z => absurd z k⟩⟩⟩
    subst es
    refine ⟨fun _ => ⟨fun _ => ?_, fun z => absurd (gI_eq _ _ _ _) z⟩, fun z => absurd (gI_eq _ _ _ _) z⟩
    rw [P_X7_wantPulls_l6]
    exact ⟨fun _ => E.no F15 (U.g 0), fun z => absurd rfl z⟩
/-- the kind that stands there, or 6 -/
def kh (n : Nat) (bs : Nat → Nat) (p : Nat) : Nat := if isW n bs p 5 = true then 0 else if isW n bs p 0 = true then 1 else if isW n bs p 1 = true then 2 else if isW n bs p 2 = true then 3 else if isW n bs p 3 = true then 4 else if isW n bs p 4 = true then 5 else 6
theorem m_kindHere {σ : St} {n : Nat} {bs : Nat → Nat} {c : Int32} {h : MH} {p : Nat} {g : Int32} (U : Us σ n bs c h p g) (hp : p ≤ n) {Q : Int32 → Prop} (yes : kh n bs p < 6 → Q (nI (kh n bs p))) (no : kh n bs p = 6 → Q (-1)) : P_X7_kindHere σ Q := by
  unfold P_X7_kindHere
  unfold kh at yes no
  refine U.word hp (i := 5) (by omega) rfl ⟨fun z0 => ?_, fun z0 => ?_⟩
  · rw [if_neg (by rw [z0]; decide)] at yes no
    refine U.word hp (i := 0) (by omega) rfl ⟨fun z1 => ?_, fun z1 => ?_⟩
    · rw [if_neg (by rw [z1]; decide)] at yes no
      refine U.word hp (i := 1) (by omega) rfl ⟨fun z2 => ?_, fun z2 => ?_⟩
      · rw [if_neg (by rw [z2]; decide)] at yes no
        refine U.word hp (i := 2) (by omega) rfl ⟨fun z3 => ?_, fun z3 => ?_⟩
        · rw [if_neg (by rw [z3]; decide)] at yes no
          refine U.word hp (i := 3) (by omega) rfl ⟨fun z4 => ?_, fun z4 => ?_⟩
          · rw [if_neg (by rw [z4]; decide)] at yes no
            refine U.word hp (i := 4) (by omega) rfl ⟨fun z5 => ?_, fun z5 => ?_⟩
            · rw [if_neg (by rw [z5]; decide)] at no
              exact no rfl
            · rw [if_pos z5] at yes; exact yes (by omega)
          · rw [if_pos z4] at yes; exact yes (by omega)
        · rw [if_pos z3] at yes; exact yes (by omega)
      · rw [if_pos z2] at yes; exact yes (by omega)
    · rw [if_pos z1] at yes; exact yes (by omega)
  · rw [if_pos z0] at yes; exact yes (by omega)
theorem pIt_kh {n : Nat} {bs : Nat → Nat} {h : MH} {p : Nat} : pIt n bs h p = if kh n bs p < 6 then pSt n bs (kh n bs p) h (nx n bs p) else if isW n bs p 8 = true then pBm n bs h (nx n bs p) else if isW n bs p 11 = true then pWe n bs h (nx n bs p) else if isW n bs p 12 = true then pSl n bs h (nx n bs p) else if isW n bs p 13 = true then pPl n bs h (nx n bs p) else (false, h, p) := by
  unfold pIt kh
  by_cases z0 : isW n bs p 5 = true
  · rw [if_pos z0, if_pos z0, if_pos (by omega)]
  · rw [if_neg z0, if_neg z0]
    by_cases z1 : isW n bs p 0 = true
    · rw [if_pos z1, if_pos z1, if_pos (by omega)]
    · rw [if_neg z1, if_neg z1]
      by_cases z2 : isW n bs p 1 = true
      · rw [if_pos z2, if_pos z2, if_pos (by omega)]
      · rw [if_neg z2, if_neg z2]
        by_cases z3 : isW n bs p 2 = true
        · rw [if_pos z3, if_pos z3, if_pos (by omega)]
        · rw [if_neg z3, if_neg z3]
          by_cases z4 : isW n bs p 3 = true
          · rw [if_pos z4, if_pos z4, if_pos (by omega)]
          · rw [if_neg z4, if_neg z4]
            by_cases z5 : isW n bs p 4 = true
            · rw [if_pos z5, if_pos z5, if_pos (by omega)]
            · rw [if_neg z5, if_neg z5, if_neg (show ¬ (6 : Nat) < 6 by omega)]
theorem m_wantItem {σ : St} {n : Nat} {bs : Nat → Nat} {c : Int32} (B : Bb n bs) {h : MH} {p : Nat} (U : Us σ n bs c h p 1) (hp : p ≤ n) (hw : Wf h) {Q : St → Prop} (E : Ue σ n bs c (pIt n bs h p) Q) : P_X7_wantItem σ Q := by
  unfold P_X7_wantItem
  rw [pIt_kh] at E
  refine m_kindHere U hp (fun z => ⟨fun y => absurd y (nI_pos (by omega)), fun _ => m_kindHere U hp (fun _ => ?_) (fun y => by omega)⟩) (fun z => ⟨fun _ => ?_, fun y => absurd (by decide) y⟩)
  · rw [if_pos z] at E
    exact m_wantStone B U hp hw E
  · rw [if_neg (by omega)] at E
    refine U.word hp (i := 8) (by omega) rfl ⟨fun d => ?_, fun d => ?_⟩
    · rw [if_neg (by rw [d]; decide)] at E
      refine U.word hp (i := 11) (by omega) rfl ⟨fun d => ?_, fun d => ?_⟩
      · rw [if_neg (by rw [d]; decide)] at E
        refine U.word hp (i := 12) (by omega) rfl ⟨fun d => ?_, fun d => ?_⟩
        · rw [if_neg (by rw [d]; decide)] at E
          refine U.word hp (i := 13) (by omega) rfl ⟨fun d => ?_, fun d => ?_⟩
          · rw [if_neg (by rw [d]; decide)] at E
            exact E.no F15 (U.g 0)
          · rw [if_pos d] at E
            exact m_wantPulls B U hp hw E
        · rw [if_pos d] at E
          exact m_wantSlack B U hp hw E
      · rw [if_pos d] at E
        exact m_wantWedge B U hp hw E
    · rw [if_pos d] at E
      exact m_wantBeam B U hp hw E
theorem m_house23 {σ : St} {n : Nat} {bs : Nat → Nat} {c : Int32} (B : Bb n bs) {K : Int32 → St → Prop} {Q : Int32 → St → Prop} {r : Bool × Nat × MH × Nat}
    (no : ∀ θ, Fr inUs σ θ → r.1 = false → gI θ 49 22 = c → gI θ 49 11 = nI r.2.2.2 → (gI θ 49 15 = 0 ∨ ¬ gI θ 49 10 = 0) → ∀ k, K k θ) (yes : ∀ θ, Fr inUs σ θ → r.1 = true → gI θ 49 22 = c → gI θ 49 15 = 1 → gI θ 49 10 = 0 → Ms θ 50 r.2.2.1 → K (nI r.2.1) θ) :
    ∀ f k (h : MH) e (θ : St), n < f + sk n bs isBl e → e ≤ n → Fr inUs σ θ → Yr θ n bs → gI θ 49 9 = nI n → gI θ 49 22 = c → gI θ 49 15 = 1 → gI θ 49 12 = nI e → Ms θ 50 h → Wf h → hN h ≤ 999 → pHo n bs f (k + 1) h (sk n bs isBl e) = r → P_X7_house_l23 K Q (f + 1) (nI k) 1 θ := by
  have h1 := B.1
  have fin : ∀ m k θ, K (nI k) θ → P_X7_house_l23 K Q (m + 1) (nI k) 0 θ := fun m k θ q => by
    rw [P_X7_house_l23]; exact ⟨fun _ => q, fun z => absurd rfl z⟩
  intro f
  induction f with
  | zero =>
    intro k h e θ hf he
    have := sk_le (n := n) (bs := bs) (c := isBl) he
    omega
  | succ f ih =>
    intro k h e θ hf he F Y e9 e22 e15 e12 M hw hn er
    have hp := sk_le (n := n) (bs := bs) (c := isBl) he
    rw [P_X7_house_l23]
    refine ⟨fun z => absurd z (by decide), fun _ => m_advance B Y e9 e22 e15 he e12 (fun t28 G1 g15 T1 => ?_)⟩
    generalize sk n bs isBl e = p at hf hp T1 er
    have U1 : Us t28 n bs c h p 1 := ⟨Y.fr G1 (by decide), T1, M.fr G1 (by decide), g15⟩
    have F1 := F.tr (G1.mono c49_Us)
    obtain ⟨⟨o1, o2, o3⟩, o4⟩ := ok_pIt (bs := bs) hp hw hn
    simp only [pHo] at er
    refine m_wantItem B U1 hp hw (fun t32 G2 Y2 T2 g2 M2 => ?_)
    have F2 := F1.tr G2
    have k4 := tkK_lt n bs (pIt n bs h p).2.2
    obtain ⟨x9, x22, x10, x11, x12, _, _, x14⟩ := T2
    rw [g2, nI_1]
    cases hc : (pIt n bs h p).1
    · rw [hc, if_neg (by decide)] at er
      rw [hc] at g2
      subst er
      refine ⟨fun _ => ?_, fun z => absurd rfl z⟩
      exact fin f _ _ (no t32 F2 rfl x22 x11 (Or.inl g2) _)
    · rw [hc, if_pos rfl] at er
      rw [hc] at g2
      have p1 := o4 hc
      rw [x10, rk_3 k4]
      have flat : tkK n bs (pIt n bs h p).2.2 ≠ 3 → P_X7_house_l23 K Q (f + 1) (nI (k + 1)) 0 t32 := by
        intro z3
        by_cases z0 : tkK n bs (pIt n bs h p).2.2 = 0
        · rw [if_pos z0] at er
          subst er
          exact fin f _ _ (yes t32 F2 rfl x22 g2 (by rw [x10, rk_0 k4]; exact z0) (M2 hc))
        · rw [if_neg z0, if_neg z3] at er
          subst er
          exact fin f _ _ (no t32 F2 rfl x22 x11 (Or.inr (by rw [x10, rk_0 k4]; exact z0)) _)
      refine ⟨fun z => absurd z (by decide), fun _ => ⟨fun z => flat (by omega), fun z => ?_⟩⟩
      rw [x14 z]
      have plt := tk_lt (bs := bs) (show tkK n bs (pIt n bs h p).2.2 ≠ 0 by omega)
      have b256 := B.2 _ plt
      rw [show (nI (bs (pIt n bs h p).2.2) = 59) ↔ bs (pIt n bs h p).2.2 = 59 from nI_eq (b := 59) (by omega) (by omega)]
      refine ⟨fun y => flat (fun z3 => ?_), fun y => ?_⟩
      · rcases tk_c (n := n) (bs := bs) (p := (pIt n bs h p).2.2) with q | q | q | q | q
        · have := q.2; omega
        · have := q.2.2; omega
        · have := q.2.2.2; omega
        · exact y q.2.2.2.1
        · have := q.2.2.2.2; omega
      · have z3 : tkK n bs (pIt n bs h p).2.2 = 3 := by
          rcases tk_c (n := n) (bs := bs) (p := (pIt n bs h p).2.2) with q | q | q | q | q
          · have := q.2; omega
          · have := q.2.2; omega
          · have := q.2.2.2; omega
          · exact q.2.2.2.2
          · exact absurd y q.2.2.2.1
        rw [if_neg (by omega), if_pos z3] at er
        have gt := nx_gt (bs := bs) plt
        have gt2 : (pIt n bs h p).2.2 + 1 ≤ sk n bs isBl (tkE n bs (pIt n bs h p).2.2) := gt
        exact ih (k + 1) _ (tkE n bs (pIt n bs h p).2.2) t32 (by omega) (tkE_le o2) F2 Y2 x9 x22 g2 x12 (M2 hc) (o3 hc).1 (o3 hc).2 er
