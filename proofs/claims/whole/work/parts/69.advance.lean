/-! THE REFERENCE'S TAPE -/
def Yr (σ : St) (n : Nat) (bs : Nat → Nat) : Prop := ∀ j, j < n → gI σ 58 j = nI (bs j)
theorem Yr.fr {σ τ : St} {n : Nat} {bs : Nat → Nat} {S : Nat → Prop} (H : Yr σ n bs) (F : Fr S σ τ) (h : ¬ S 58) : Yr τ n bs := fun j hj => by rw [F.i h]; exact H j hj
def wcd (bs : Nat → Nat) (p : Nat) : Nat → Nat
  | 0 => 0
  | k + 1 => 27 * wcd bs p k + (bs (p + k) - 96)
def wcI (bs : Nat → Nat) (p k : Nat) : Int64 := if k ≤ 12 then lN (wcd bs p k) else -1
def rk (k : Nat) : Nat := if k = 4 then 3 else k
def Tr (σ : St) (n : Nat) (bs : Nat → Nat) (c : Int32) (p : Nat) : Prop := gI σ 49 9 = nI n ∧ gI σ 49 22 = c ∧ gI σ 49 10 = nI (rk (tkK n bs p)) ∧ gI σ 49 11 = nI p ∧ gI σ 49 12 = nI (tkE n bs p) ∧ (tkK n bs p = 1 → gL σ 49 13 = wcI bs p (tkE n bs p - p)) ∧ (tkK n bs p = 2 → gI σ 49 14 = nI (num n bs p)) ∧ (3 ≤ tkK n bs p → gI σ 49 14 = nI (bs p))
theorem Tr.fr {σ τ : St} {n : Nat} {bs : Nat → Nat} {c : Int32} {p : Nat} {S : Nat → Prop} (H : Tr σ n bs c p) (F : Fr S σ τ) (h : ¬ S 49) : Tr τ n bs c p := by
  unfold Tr
  rw [F.i h, F.i h, F.i h, F.i h, F.i h, F.i h, F.l h]
  exact H
theorem Tr.g {σ : St} {n : Nat} {bs : Nat → Nat} {c : Int32} {p : Nat} (H : Tr σ n bs c p) (v : Int32) : Tr (sI σ 49 15 v) n bs c p := by
  unfold Tr
  rw [gI_ne (by omega), gI_ne (by omega), gI_ne (by omega), gI_ne (by omega), gI_ne (by omega), gI_ne (by omega), gL_sI]
  exact H
theorem m_byteAt {σ : St} {n : Nat} {bs : Nat → Nat} (B : Bb n bs) (Y : Yr σ n bs) (e9 : gI σ 49 9 = nI n) {e : Nat} (he : e ≤ n) {Q : Int32 → Prop} (q1 : e < n → Q (nI (bs e))) (q2 : n ≤ e → Q (-1)) : P_X7_byteAt (nI e) σ Q := by
  have h1 := B.1
  unfold P_X7_byteAt
  rw [e9, nI_leI (by omega) (by omega), nI_clamp (by omega)]
  refine ⟨fun z => q2 z, fun z => ⟨in_I (by omega) (by omega), ?_⟩⟩
  rw [Y e (by omega)]
  exact q1 (by omega)
theorem m_isLet {σ : St} {b : Nat} (hb : b < 256) {Q : Bool → Prop} (q : Q (isL b)) : P_X7_isLetter (nI b) σ Q := by
  unfold P_X7_isLetter
  refine m_in ?_
  rw [show decide ((97 : Int32) ≤ nI b ∧ nI b ≤ 122) = isL b from dec_nI (a := 97) (b := 122) (by omega) (by omega) (by omega)]
  exact q
theorem m_isDig {σ : St} {b : Nat} (hb : b < 256) {Q : Bool → Prop} (q : Q (isD b)) : P_X7_isDigit (nI b) σ Q := by
  unfold P_X7_isDigit
  refine m_in ?_
  rw [show decide ((48 : Int32) ≤ nI b ∧ nI b ≤ 57) = isD b from dec_nI (a := 48) (b := 57) (by omega) (by omega) (by omega)]
  exact q
theorem m_noLet {σ : St} {Q : Bool → Prop} (q : Q false) : P_X7_isLetter (-1) σ Q := by
  unfold P_X7_isLetter
  exact m_in (by rw [show decide ((97 : Int32) ≤ -1 ∧ (-1 : Int32) ≤ 122) = false by decide]; exact q)
theorem m_noDig {σ : St} {Q : Bool → Prop} (q : Q false) : P_X7_isDigit (-1) σ Q := by
  unfold P_X7_isDigit
  exact m_in (by rw [show decide ((48 : Int32) ≤ -1 ∧ (-1 : Int32) ≤ 57) = false by decide]; exact q)
theorem m_ad8 {σ : St} {n : Nat} {bs : Nat → Nat} (B : Bb n bs) (Y : Yr σ n bs) (e9 : gI σ 49 9 = nI n) {K Q : St → Prop} : ∀ (f e : Nat) (τ : St), n - e ≤ f → e ≤ n → Fr (isC 49) σ τ → (∀ j, j ≠ 11 → gI τ 49 j = gI σ 49 j) → gI τ 49 11 = nI e →
    (∀ π, Fr (isC 49) σ π → (∀ j, j ≠ 11 → gI π 49 j = gI σ 49 j) → gI π 49 11 = nI (sk n bs isBl e) → K π) → P_X7_advance_l8 K Q (f + 1) τ := by
  intro f
  induction f with
  | zero =>
    intro e τ hf he F o e1 kk
    rw [P_X7_advance_l8, e1]
    refine m_byteAt B (Y.fr F (by decide)) ((o 9 (by omega)).trans e9) he (fun z => by omega) (fun _ => ⟨fun _ => kk τ F o ?_, fun z => absurd z (by decide)⟩)
    rw [e1, sk_n (by omega)]
  | succ f ih =>
    intro e τ hf he F o e1 kk
    rw [P_X7_advance_l8, e1]
    refine m_byteAt B (Y.fr F (by decide)) ((o 9 (by omega)).trans e9) he (fun z => ?_) (fun z => ⟨fun _ => kk τ F o ?_, fun y => absurd y (by decide)⟩)
    · have h2 := B.2 e z
      rw [show (nI (bs e) = 32) ↔ bs e = 32 from nI_eq (b := 32) (by omega) (by omega), nI_1]
      refine ⟨fun y => kk τ F o ?_, fun y => ?_⟩
      · rw [e1, sk_n (fun q => y (of_decide_eq_true q.2))]
      · refine ih (e + 1) _ (by omega) (by omega) (F.sI rfl _ _) (fun j hj => by rw [gI_ne (by omega)]; exact o j hj) (gI_eq _ _ _ _) (fun π Fπ p1 p3 => kk π Fπ p1 ?_)
        rw [p3, ← sk_y z (decide_eq_true y)]
    · rw [e1, sk_n (by omega)]
theorem m_ad126 {σ : St} {n : Nat} {bs : Nat → Nat} (B : Bb n bs) (Y : Yr σ n bs) (e9 : gI σ 49 9 = nI n) {p : Nat} (e10 : gI σ 49 10 = 1) (e11 : gI σ 49 11 = nI p) {K Q : St → Prop} : ∀ (f e : Nat) (τ : St), n - e ≤ f → p ≤ e → e ≤ n → Fr (isC 49) σ τ → (∀ j, j ≠ 12 → gI τ 49 j = gI σ 49 j) → gI τ 49 12 = nI e → gL τ 49 13 = wcI bs p (e - p) →
    (∀ π, Fr (isC 49) σ π → (∀ j, j ≠ 12 → gI π 49 j = gI σ 49 j) → gI π 49 12 = nI (sk n bs isL e) → gL π 49 13 = wcI bs p (sk n bs isL e - p) → K π) → P_X7_advance_l126 K Q (f + 1) τ := by
  have h1 := B.1
  intro f
  induction f with
  | zero =>
    intro e τ hf hpe he F o e12 ew kk
    have ee : sk n bs isL e = e := sk_n (by omega)
    rw [P_X7_advance_l126, o 10 (by omega), e10, e12]
    refine ⟨fun z => absurd rfl z, fun _ => m_byteAt B (Y.fr F (by decide)) ((o 9 (by omega)).trans e9) he (fun z => by omega) (fun _ => m_noLet (bF (kk τ F o ?_ ?_)))⟩
    · rw [e12, ee]
    · rw [ew, ee]
  | succ f ih =>
    intro e τ hf hpe he F o e12 ew kk
    rw [P_X7_advance_l126, o 10 (by omega), e10, e12]
    have Y1 := Y.fr F (by decide)
    have f9 := (o 9 (by omega)).trans e9
    refine ⟨fun z => absurd rfl z, fun _ => m_byteAt B Y1 f9 he (fun z => m_isLet (B.2 e z) ⟨fun y => kk τ F o ?_ ?_, fun y => ?_⟩) (fun z => m_noLet (bF (kk τ F o ?_ ?_)))⟩
    · rw [e12, sk_n (fun q => by rw [y] at q; exact absurd q.2 (by decide))]
    · rw [ew, sk_n (fun q => by rw [y] at q; exact absurd q.2 (by decide))]
    · have h2 := B.2 e z
      have yd := of_decide_eq_true y
      rw [o 11 (by omega), e11, pk_sub hpe, show ((12 : Int32) ≤ nI (e - p)) ↔ 12 ≤ e - p from nI_leI (a := 12) (by omega) (by omega)]
      refine ⟨fun x => ?_, fun x => m_byteAt B Y1 f9 he (fun _ => ?_) (fun q => by omega)⟩
      · rw [gI_sL, e12, nI_1]
        refine ih (e + 1) _ (by omega) (by omega) (by omega) ((F.sL rfl _ _).sI rfl _ _) (fun j hj => by rw [gI_ne (by omega), gI_sL]; exact o j hj) (gI_eq _ _ _ _) ?_ (fun π Fπ p1 p3 p4 => kk π Fπ p1 (by rw [p3, ← sk_y z y]) (by rw [p4, ← sk_y z y]))
        rw [gL_sI, gL_eq]; unfold wcI; rw [if_neg (by omega)]
      · rw [gI_sL, e12, nI_1]
        refine ih (e + 1) _ (by omega) (by omega) (by omega) ((F.sL rfl _ _).sI rfl _ _) (fun j hj => by rw [gI_ne (by omega), gI_sL]; exact o j hj) (gI_eq _ _ _ _) ?_ (fun π Fπ p1 p3 p4 => kk π Fπ p1 (by rw [p3, ← sk_y z y]) (by rw [p4, ← sk_y z y]))
        rw [gL_sI, gL_eq, ew]; unfold wcI
        rw [if_pos (by omega), if_pos (by omega), show (27 : Int64) = lN 27 from rfl, lN_mul, nI_l (by omega), lN_add, show (96 : Int64) = lN 96 from rfl, lN_sub (by omega), show e + 1 - p = (e - p) + 1 by omega]
        simp only [wcd]
        rw [show p + (e - p) = e by omega, show 27 * wcd bs p (e - p) + bs e - 96 = 27 * wcd bs p (e - p) + (bs e - 96) by omega]
    · rw [e12, sk_n (by omega)]
    · rw [ew, sk_n (by omega)]
theorem m_ad207 {σ : St} {n : Nat} {bs : Nat → Nat} (B : Bb n bs) (Y : Yr σ n bs) (e9 : gI σ 49 9 = nI n) {p : Nat} (e10 : gI σ 49 10 = 2) {K Q : St → Prop} : ∀ (f e : Nat) (τ : St), n - e ≤ f → p ≤ e → e ≤ n → Fr (isC 49) σ τ → (∀ j, j ≠ 12 → j ≠ 14 → gI τ 49 j = gI σ 49 j) → gI τ 49 12 = nI e → gI τ 49 14 = nI (nv bs p (e - p)) →
    (∀ π, Fr (isC 49) σ π → (∀ j, j ≠ 12 → j ≠ 14 → gI π 49 j = gI σ 49 j) → gI π 49 12 = nI (sk n bs isD e) → gI π 49 14 = nI (nv bs p (sk n bs isD e - p)) → K π) → P_X7_advance_l207 K Q (f + 1) τ := by
  have h1 := B.1
  intro f
  induction f with
  | zero =>
    intro e τ hf hpe he F o e12 ew kk
    have ee : sk n bs isD e = e := sk_n (by omega)
    rw [P_X7_advance_l207, o 10 (by omega) (by omega), e10, e12]
    refine ⟨fun z => absurd rfl z, fun _ => m_byteAt B (Y.fr F (by decide)) ((o 9 (by omega) (by omega)).trans e9) he (fun z => by omega) (fun _ => m_noDig (bF (kk τ F o ?_ ?_)))⟩
    · rw [e12, ee]
    · rw [ew, ee]
  | succ f ih =>
    intro e τ hf hpe he F o e12 ew kk
    rw [P_X7_advance_l207, o 10 (by omega) (by omega), e10, e12]
    have Y1 := Y.fr F (by decide)
    have f9 := (o 9 (by omega) (by omega)).trans e9
    refine ⟨fun z => absurd rfl z, fun _ => m_byteAt B Y1 f9 he (fun z => m_isDig (B.2 e z) ⟨fun y => kk τ F o ?_ ?_, fun y => ?_⟩) (fun z => m_noDig (bF (kk τ F o ?_ ?_)))⟩
    · rw [e12, sk_n (fun q => by rw [y] at q; exact absurd q.2 (by decide))]
    · rw [ew, sk_n (fun q => by rw [y] at q; exact absurd q.2 (by decide))]
    · have h2 := B.2 e z
      have yd := of_decide_eq_true y
      have n1 := nv_le bs p (e - p)
      have en : nv bs p (e + 1 - p) = min 1000 (10 * nv bs p (e - p) + (bs e - 48)) := by
        rw [show e + 1 - p = (e - p) + 1 by omega]
        simp only [nv]
        rw [show p + (e - p) = e by omega]
      rw [ew, show (nI (nv bs p (e - p)) ≤ (99 : Int32)) ↔ nv bs p (e - p) ≤ 99 from nI_leI (b := 99) (by omega) (by omega)]
      refine ⟨fun x => m_byteAt B Y1 f9 he (fun _ => ?_) (fun q => by omega), fun x => ?_⟩
      · rw [gI_ne (by omega), e12, nI_1]
        refine ih (e + 1) _ (by omega) (by omega) (by omega) ((F.sI rfl _ _).sI rfl _ _) (fun j hj hj2 => by rw [gI_ne (by omega), gI_ne (by omega)]; exact o j hj hj2) (gI_eq _ _ _ _) ?_ (fun π Fπ p1 p3 p4 => kk π Fπ p1 (by rw [p3, ← sk_y z y]) (by rw [p4, ← sk_y z y]))
        rw [gI_ne (by omega), gI_eq, en, show (10 : Int32) = nI 10 from rfl, pk_mul, nI_add, show (48 : Int32) = nI 48 from rfl, pk_sub (by omega)]
        rw [show 10 * nv bs p (e - p) + bs e - 48 = min 1000 (10 * nv bs p (e - p) + (bs e - 48)) by omega]
      · rw [gI_ne (by omega), e12, nI_1]
        refine ih (e + 1) _ (by omega) (by omega) (by omega) ((F.sI rfl _ _).sI rfl _ _) (fun j hj hj2 => by rw [gI_ne (by omega), gI_ne (by omega)]; exact o j hj hj2) (gI_eq _ _ _ _) ?_ (fun π Fπ p1 p3 p4 => kk π Fπ p1 (by rw [p3, ← sk_y z y]) (by rw [p4, ← sk_y z y]))
        rw [gI_ne (by omega), gI_eq, en, show min 1000 (10 * nv bs p (e - p) + (bs e - 48)) = 1000 by omega]
        rfl
    · rw [e12, sk_n (by omega)]
    · rw [ew, sk_n (by omega)]
def TL (Q : St → Prop) (s : St) : Prop := ((¬ (gI s 49 10) = 3) → ∃ m126, P_X7_advance_l126 (fun t207 => ∃ m207, P_X7_advance_l207 (fun t280 => Q t280) Q m207 t207) Q m126 s) ∧ (((gI s 49 10) = 3) → ∃ m126, P_X7_advance_l126 (fun t207 => ∃ m207, P_X7_advance_l207 (fun t280 => Q t280) Q m207 t207) Q m126 (sI s 49 12 ((gI s 49 12) + 1)))
def ML (Q : St → Prop) (r : Int32) (X : Int32) (s39 : St) : Prop := ∀ s88, s88 = sL (sI s39 49 10 X) 49 13 0 → ((¬ (gI s88 49 10) = 2) → (∀ s105, s105 = sI s88 49 14 r → TL Q s105)) ∧ (((gI s88 49 10) = 2) → (∀ s105, s105 = sI s88 49 14 0 → TL Q s105))
/-- neither letters nor digits follow -/
theorem m_adE {Q : St → Prop} {s : St} (h1 : ¬ gI s 49 10 = 1) (h2 : ¬ gI s 49 10 = 2) (q : Q s) : ∃ m126, P_X7_advance_l126 (fun t207 => ∃ m207, P_X7_advance_l207 (fun t280 => Q t280) Q m207 t207) Q m126 s := by
  refine ⟨1, ?_⟩
  rw [P_X7_advance_l126]
  refine ⟨fun _ => ⟨1, ?_⟩, fun z => absurd z h1⟩
  rw [P_X7_advance_l207]
  exact ⟨fun _ => q, fun z => absurd z h2⟩
theorem m_TL {σ : St} {n : Nat} {bs : Nat → Nat} (B : Bb n bs) {s : St} (Y : Yr s n bs) {c g : Int32} {p : Nat} (hp : p ≤ n) (F : Fr (isC 49) σ s) (e9 : gI s 49 9 = nI n) (e22 : gI s 49 22 = c) (e15 : gI s 49 15 = g) (e10 : gI s 49 10 = nI (rk (tkK n bs p))) (e11 : gI s 49 11 = nI p) (e12 : gI s 49 12 = nI p) (e13 : gL s 49 13 = 0) (e14 : tkK n bs p = 2 → gI s 49 14 = 0) (e14b : 3 ≤ tkK n bs p → gI s 49 14 = nI (bs p))
    {Q : St → Prop} (hQ : ∀ τ, Fr (isC 49) σ τ → gI τ 49 15 = g → Tr τ n bs c p → Q τ) : TL Q s := by
  have h1 := B.1
  have lit : ∀ k : Nat, tkK n bs p = k → k ≤ 3 → gI s 49 10 = nI k := fun k hk h3 => by rw [e10, hk]; unfold rk; rw [if_neg (by omega)]
  have l3 : 3 ≤ tkK n bs p → gI s 49 10 = 3 := fun h3 => by
    rw [e10]; unfold rk
    have := tkK_lt n bs p
    rcases (show tkK n bs p = 3 ∨ tkK n bs p = 4 by omega) with z | z
    · rw [if_neg (by omega), z]; rfl
    · rw [if_pos z]; rfl
  have fin3 : 3 ≤ tkK n bs p → TL Q s := fun h3 => by
    have e := l3 h3
    refine ⟨fun z => absurd e z, fun _ => ?_⟩
    have F2 : Fr (isC 49) σ (sI s 49 12 (gI s 49 12 + 1)) := F.sI rfl _ _
    refine m_adE (by rw [gI_ne (by omega), e]; decide) (by rw [gI_ne (by omega), e]; decide) (hQ _ F2 (by rw [gI_ne (by omega)]; exact e15) ⟨?_, ?_, ?_, ?_, ?_, fun q => by omega, fun q => by omega, fun q => ?_⟩)
    · rw [gI_ne (by omega)]; exact e9
    · rw [gI_ne (by omega)]; exact e22
    · rw [gI_ne (by omega)]; exact e10
    · rw [gI_ne (by omega)]; exact e11
    · rw [gI_eq, e12, nI_1, tkE_3 h3]
    · rw [gI_ne (by omega)]; exact e14b q
  rcases tk_c (n := n) (bs := bs) (p := p) with ⟨_, k⟩ | ⟨h1, q, k⟩ | ⟨h1, _, q, k⟩ | ⟨h1, _, _, _, k⟩ | ⟨h1, _, _, _, k⟩
  · have e := lit 0 k (by omega)
    refine ⟨fun _ => m_adE (by rw [e]; decide) (by rw [e]; decide) (hQ _ F e15 ⟨e9, e22, e10, e11, by rw [e12, tkE_0 k], fun q => by omega, fun q => by omega, fun q => by omega⟩), fun z => by rw [e] at z; exact absurd z (by decide)⟩
  · have e := lit 1 k (by omega)
    refine ⟨fun _ => ⟨n - p + 1, ?_⟩, fun z => by rw [e] at z; exact absurd z (by decide)⟩
    refine m_ad126 B Y e9 (p := p) e e11 (n - p) p s (Nat.le_refl _) (Nat.le_refl _) hp Fr.rf (fun _ _ => rfl) e12 (by rw [e13, Nat.sub_self]; rfl) (fun π G o w5 w6 => ⟨1, ?_⟩)
    rw [P_X7_advance_l207]
    refine ⟨fun _ => hQ π (F.tr G) ((o 15 (by omega)).trans e15) ⟨(o 9 (by omega)).trans e9, (o 22 (by omega)).trans e22, (o 10 (by omega)).trans e10, (o 11 (by omega)).trans e11, by rw [w5, tkE_1 k], fun _ => by rw [w6, tkE_1 k], fun q => by omega, fun q => by omega⟩, fun z => by rw [o 10 (by omega), e] at z; exact absurd z (by decide)⟩
  · have e := lit 2 k (by omega)
    refine ⟨fun _ => ⟨1, ?_⟩, fun z => by rw [e] at z; exact absurd z (by decide)⟩
    rw [P_X7_advance_l126]
    refine ⟨fun _ => ⟨n - p + 1, ?_⟩, fun z => by rw [e] at z; exact absurd z (by decide)⟩
    refine m_ad207 B Y e9 (p := p) e (n - p) p s (Nat.le_refl _) (Nat.le_refl _) hp Fr.rf (fun _ _ _ => rfl) e12 (by rw [e14 k, Nat.sub_self]; rfl) (fun π G o w5 w6 => hQ π (F.tr G) ((o 15 (by omega) (by omega)).trans e15) ?_)
    exact ⟨(o 9 (by omega) (by omega)).trans e9, (o 22 (by omega) (by omega)).trans e22, (o 10 (by omega) (by omega)).trans e10, (o 11 (by omega) (by omega)).trans e11, by rw [w5, tkE_2 k], fun q => by omega, fun _ => by rw [w6]; unfold num; rw [tkE_2 k], fun q => by omega⟩
  · exact fin3 (by omega)
  · exact fin3 (by omega)
theorem m_ML {σ : St} {n : Nat} {bs : Nat → Nat} (B : Bb n bs) {s : St} (Y : Yr s n bs) {c g : Int32} {p : Nat} (hp : p ≤ n) (F : Fr (isC 49) σ s) (e9 : gI s 49 9 = nI n) (e22 : gI s 49 22 = c) (e15 : gI s 49 15 = g) (e11 : gI s 49 11 = nI p) (e12 : gI s 49 12 = nI p) {r X : Int32} (eX : X = nI (rk (tkK n bs p))) (er : 3 ≤ tkK n bs p → r = nI (bs p))
    {Q : St → Prop} (hQ : ∀ τ, Fr (isC 49) σ τ → gI τ 49 15 = g → Tr τ n bs c p → Q τ) : ML Q r X s := by
  intro s88 e88
  have F88 : Fr (isC 49) σ s88 := by rw [e88]; exact (F.sI rfl _ _).sL rfl _ _
  have Y88 : Yr s88 n bs := fun j hj => by rw [e88, gI_sL, gI_ne (by omega)]; exact Y j hj
  have o : ∀ j, j ≠ 10 → gI s88 49 j = gI s 49 j := fun j hj => by rw [e88, gI_sL, gI_ne (by omega)]
  have x10 : gI s88 49 10 = X := by rw [e88, gI_sL, gI_eq]
  have x13 : gL s88 49 13 = 0 := by rw [e88, gL_eq]
  have i2 : X = 2 ↔ tkK n bs p = 2 := by
    rw [eX]
    have := tkK_lt n bs p
    unfold rk
    split
    · rename_i z; exact ⟨fun q => absurd q (by decide), fun q => by omega⟩
    · exact nI_eq (b := 2) (by omega) (by omega)
  rw [x10, i2]
  refine ⟨fun z s105 e105 => ?_, fun z s105 e105 => ?_⟩
  · refine m_TL (p := p) (c := c) (g := g) B (fun j hj => by rw [e105, gI_ne (by omega)]; exact Y88 j hj) hp (by rw [e105]; exact F88.sI rfl _ _) ?_ ?_ ?_ ?_ ?_ ?_ ?_ (fun q => absurd q z) (fun q => ?_) hQ
    · rw [e105, gI_ne (by omega), o 9 (by omega)]; exact e9
    · rw [e105, gI_ne (by omega), o 22 (by omega)]; exact e22
    · rw [e105, gI_ne (by omega), o 15 (by omega)]; exact e15
    · rw [e105, gI_ne (by omega), x10, eX]
    · rw [e105, gI_ne (by omega), o 11 (by omega)]; exact e11
    · rw [e105, gI_ne (by omega), o 12 (by omega)]; exact e12
    · rw [e105, gL_sI]; exact x13
    · rw [e105, gI_eq]; exact er q
  · refine m_TL (p := p) (c := c) (g := g) B (fun j hj => by rw [e105, gI_ne (by omega)]; exact Y88 j hj) hp (by rw [e105]; exact F88.sI rfl _ _) ?_ ?_ ?_ ?_ ?_ ?_ ?_ (fun q => ?_) (fun q => by omega) hQ
    · rw [e105, gI_ne (by omega), o 9 (by omega)]; exact e9
    · rw [e105, gI_ne (by omega), o 22 (by omega)]; exact e22
    · rw [e105, gI_ne (by omega), o 15 (by omega)]; exact e15
    · rw [e105, gI_ne (by omega), x10, eX]
    · rw [e105, gI_ne (by omega), o 11 (by omega)]; exact e11
    · rw [e105, gI_ne (by omega), o 12 (by omega)]; exact e12
    · rw [e105, gL_sI]; exact x13
    · rw [e105, gI_eq]
theorem m_advance {σ : St} {n : Nat} {bs : Nat → Nat} (B : Bb n bs) (Y : Yr σ n bs) {c g : Int32} (e9 : gI σ 49 9 = nI n) (e22 : gI σ 49 22 = c) (e15 : gI σ 49 15 = g) {e : Nat} (he : e ≤ n) (e12 : gI σ 49 12 = nI e) {Q : St → Prop} (hQ : ∀ τ, Fr (isC 49) σ τ → gI τ 49 15 = g → Tr τ n bs c (sk n bs isBl e) → Q τ) : P_X7_advance σ Q := by
  have h1 := B.1
  unfold P_X7_advance
  rw [e12]
  refine ⟨n - e + 1, m_ad8 (σ := sI σ 49 11 (nI e)) B (fun j hj => by rw [gI_ne (by omega)]; exact Y j hj) (by rw [gI_ne (by omega)]; exact e9) (n - e) e _ (Nat.le_refl _) he Fr.rf (fun _ _ => rfl) (gI_eq _ _ _ _) (fun π F o p3 s39 es => ?_)⟩
  have hp := sk_le (n := n) (bs := bs) (c := isBl) he
  generalize sk n bs isBl e = p at p3 hp hQ
  have F0 : Fr (isC 49) σ π := ((Fr.rf (S := isC 49)).sI rfl _ _).tr F
  have F1 : Fr (isC 49) σ s39 := by rw [es]; exact F0.sI rfl _ _
  have oo : ∀ j, j ≠ 11 → j ≠ 12 → gI s39 49 j = gI σ 49 j := fun j h1 h2 => by rw [es, gI_ne (by omega), o j h1, gI_ne (by omega)]
  have f11 : gI s39 49 11 = nI p := by rw [es, gI_ne (by omega)]; exact p3
  have f12 : gI s39 49 12 = nI p := by rw [es, gI_eq]; exact p3
  have f9 : gI s39 49 9 = nI n := (oo 9 (by omega) (by omega)).trans e9
  have Y1 := Y.fr F1 (by decide)
  have ml : ∀ (X r : Int32), X = nI (rk (tkK n bs p)) → (3 ≤ tkK n bs p → r = nI (bs p)) → ML Q r X s39 := fun X r eX er => m_ML B Y1 hp F1 f9 ((oo 22 (by omega) (by omega)).trans e22) ((oo 15 (by omega) (by omega)).trans e15) f11 f12 eX er hQ
  rw [f11]
  refine m_byteAt B Y1 f9 hp (fun z => ?_) (fun z => ?_)
  · have h2 := B.2 p z
    refine ⟨fun _ => m_isLet h2 ⟨fun y => m_isDig h2 ⟨fun x => ?_, fun x => ?_⟩, fun y => ?_⟩, fun w => absurd (nI_pos' (by omega)) w⟩
    · by_cases q : bs p = 59
      · exact ml 3 (nI (bs p)) (by rw [tkK_3 z y x q]; rfl) (fun _ => rfl)
      · exact ml 3 (nI (bs p)) (by rw [tkK_4 z y x q]; rfl) (fun _ => rfl)
    · have k := tkK_2 z y x
      exact ml 2 (nI (bs p)) (by rw [k]; rfl) (fun _ => rfl)
    · have k := tkK_1 z y
      exact ml 1 (nI (bs p)) (by rw [k]; rfl) (fun _ => rfl)
  · have k : tkK n bs p = 0 := tkK_0.mpr z
    exact ⟨fun w => absurd w (by decide), fun _ => ml 0 (-1) (by rw [k]; rfl) (fun q => by omega)⟩
theorem m_nx {σ : St} {n : Nat} {bs : Nat → Nat} (B : Bb n bs) (Y : Yr σ n bs) {c g : Int32} {p : Nat} (hp : p ≤ n) (T : Tr σ n bs c p) (e15 : gI σ 49 15 = g) {Q : St → Prop} (hQ : ∀ τ, Fr (isC 49) σ τ → Yr τ n bs → gI τ 49 15 = g → Tr τ n bs c (nx n bs p) → Q τ) : P_X7_advance σ Q :=
  m_advance B Y T.1 T.2.1 e15 (tkE_le hp) T.2.2.2.2.1 (fun τ F e T2 => hQ τ F (Y.fr F (by decide)) e T2)
