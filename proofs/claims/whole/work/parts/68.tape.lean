/-! THE TAPE: its tokens, told by where they begin -/
def isL (b : Nat) : Bool := decide (97 ≤ b ∧ b ≤ 122)
def isD (b : Nat) : Bool := decide (48 ≤ b ∧ b ≤ 57)
def isBl (b : Nat) : Bool := decide (b = 32)
def skp (n : Nat) (bs : Nat → Nat) (c : Nat → Bool) : Nat → Nat → Nat
  | 0, e => e
  | f + 1, e => if e < n ∧ c (bs e) = true then skp n bs c f (e + 1) else e
def sk (n : Nat) (bs : Nat → Nat) (c : Nat → Bool) (e : Nat) : Nat := skp n bs c (n - e) e
theorem sk_y {n : Nat} {bs : Nat → Nat} {c : Nat → Bool} {e : Nat} (h1 : e < n) (h2 : c (bs e) = true) : sk n bs c e = sk n bs c (e + 1) := by
  unfold sk
  rw [show n - e = (n - (e + 1)) + 1 by omega]
  simp only [skp]
  rw [if_pos ⟨h1, h2⟩]
theorem sk_n {n : Nat} {bs : Nat → Nat} {c : Nat → Bool} {e : Nat} (h : ¬ (e < n ∧ c (bs e) = true)) : sk n bs c e = e := by
  unfold sk
  cases n - e with
  | zero => rfl
  | succ f => simp only [skp]; rw [if_neg h]
theorem sk_all {n : Nat} {bs : Nat → Nat} {c : Nat → Bool} : ∀ f e, n - e ≤ f → e ≤ n → e ≤ sk n bs c e ∧ sk n bs c e ≤ n ∧ ∀ i, e ≤ i → i < sk n bs c e → c (bs i) = true := by
  intro f
  induction f with
  | zero =>
    intro e hf he
    rw [sk_n (by omega)]
    exact ⟨Nat.le_refl _, he, fun i h1 h2 => by omega⟩
  | succ f ih =>
    intro e hf he
    by_cases z : e < n ∧ c (bs e) = true
    · rw [sk_y z.1 z.2]
      obtain ⟨a, b, d⟩ := ih (e + 1) (by omega) (by omega)
      refine ⟨by omega, b, fun i h1 h2 => ?_⟩
      by_cases q : i = e
      · rw [q]; exact z.2
      · exact d i (by omega) h2
    · rw [sk_n z]
      exact ⟨Nat.le_refl _, he, fun i h1 h2 => by omega⟩
theorem sk_ge {n : Nat} {bs : Nat → Nat} {c : Nat → Bool} {e : Nat} (he : e ≤ n) : e ≤ sk n bs c e := (sk_all (n - e) e (Nat.le_refl _) he).1
theorem sk_le {n : Nat} {bs : Nat → Nat} {c : Nat → Bool} {e : Nat} (he : e ≤ n) : sk n bs c e ≤ n := (sk_all (n - e) e (Nat.le_refl _) he).2.1
theorem sk_in {n : Nat} {bs : Nat → Nat} {c : Nat → Bool} {e i : Nat} (he : e ≤ n) (h1 : e ≤ i) (h2 : i < sk n bs c e) : c (bs i) = true := (sk_all (n - e) e (Nat.le_refl _) he).2.2 i h1 h2
/-- the kind, the end, the number of the token that begins at p; where the next one begins -/
def tkK (n : Nat) (bs : Nat → Nat) (p : Nat) : Nat := if n ≤ p then 0 else if isL (bs p) = true then 1 else if isD (bs p) = true then 2 else if bs p = 59 then 3 else 4
def tkE (n : Nat) (bs : Nat → Nat) (p : Nat) : Nat := if tkK n bs p = 0 then p else if tkK n bs p = 1 then sk n bs isL p else if tkK n bs p = 2 then sk n bs isD p else p + 1
def nv (bs : Nat → Nat) (p : Nat) : Nat → Nat
  | 0 => 0
  | k + 1 => min 1000 (10 * nv bs p k + (bs (p + k) - 48))
def num (n : Nat) (bs : Nat → Nat) (p : Nat) : Nat := nv bs p (tkE n bs p - p)
def nx (n : Nat) (bs : Nat → Nat) (p : Nat) : Nat := sk n bs isBl (tkE n bs p)
theorem nv_le (bs : Nat → Nat) (p k : Nat) : nv bs p k ≤ 1000 := by
  cases k with
  | zero => simp [nv]
  | succ k => simp only [nv]; omega
theorem num_le (n : Nat) (bs : Nat → Nat) (p : Nat) : num n bs p ≤ 1000 := nv_le _ _ _
theorem tkK_lt (n : Nat) (bs : Nat → Nat) (p : Nat) : tkK n bs p ≤ 4 := by
  unfold tkK
  split
  · omega
  · split
    · omega
    · split
      · omega
      · split <;> omega
theorem tkK_0 {n : Nat} {bs : Nat → Nat} {p : Nat} : tkK n bs p = 0 ↔ n ≤ p := by
  unfold tkK
  by_cases z : n ≤ p
  · rw [if_pos z]; exact ⟨fun _ => z, fun _ => rfl⟩
  · rw [if_neg z]
    refine ⟨fun y => ?_, fun y => absurd y z⟩
    split at y
    · omega
    · split at y
      · omega
      · split at y <;> omega
theorem tkK_1 {n : Nat} {bs : Nat → Nat} {p : Nat} (hp : p < n) (h : isL (bs p) = true) : tkK n bs p = 1 := by
  unfold tkK; rw [if_neg (by omega), if_pos h]
theorem tkK_2 {n : Nat} {bs : Nat → Nat} {p : Nat} (hp : p < n) (h0 : isL (bs p) = false) (h : isD (bs p) = true) : tkK n bs p = 2 := by
  unfold tkK; rw [if_neg (by omega), if_neg (by rw [h0]; decide), if_pos h]
theorem tkK_3 {n : Nat} {bs : Nat → Nat} {p : Nat} (hp : p < n) (h0 : isL (bs p) = false) (h1 : isD (bs p) = false) (h : bs p = 59) : tkK n bs p = 3 := by
  unfold tkK; rw [if_neg (by omega), if_neg (by rw [h0]; decide), if_neg (by rw [h1]; decide), if_pos h]
theorem tkK_4 {n : Nat} {bs : Nat → Nat} {p : Nat} (hp : p < n) (h0 : isL (bs p) = false) (h1 : isD (bs p) = false) (h : ¬ bs p = 59) : tkK n bs p = 4 := by
  unfold tkK; rw [if_neg (by omega), if_neg (by rw [h0]; decide), if_neg (by rw [h1]; decide), if_neg h]
theorem tkE_0 {n : Nat} {bs : Nat → Nat} {p : Nat} (h : tkK n bs p = 0) : tkE n bs p = p := by unfold tkE; rw [if_pos h]
theorem tkE_1 {n : Nat} {bs : Nat → Nat} {p : Nat} (h : tkK n bs p = 1) : tkE n bs p = sk n bs isL p := by unfold tkE; rw [if_neg (by omega), if_pos h]
theorem tkE_2 {n : Nat} {bs : Nat → Nat} {p : Nat} (h : tkK n bs p = 2) : tkE n bs p = sk n bs isD p := by unfold tkE; rw [if_neg (by omega), if_neg (by omega), if_pos h]
theorem tkE_3 {n : Nat} {bs : Nat → Nat} {p : Nat} (h : 3 ≤ tkK n bs p) : tkE n bs p = p + 1 := by unfold tkE; rw [if_neg (by omega), if_neg (by omega), if_neg (by omega)]
theorem tk_c {n : Nat} {bs : Nat → Nat} {p : Nat} : (n ≤ p ∧ tkK n bs p = 0) ∨ (p < n ∧ isL (bs p) = true ∧ tkK n bs p = 1) ∨ (p < n ∧ isL (bs p) = false ∧ isD (bs p) = true ∧ tkK n bs p = 2) ∨ (p < n ∧ isL (bs p) = false ∧ isD (bs p) = false ∧ bs p = 59 ∧ tkK n bs p = 3) ∨ (p < n ∧ isL (bs p) = false ∧ isD (bs p) = false ∧ ¬ bs p = 59 ∧ tkK n bs p = 4) := by
  by_cases z : n ≤ p
  · exact Or.inl ⟨z, tkK_0.mpr z⟩
  · have hp : p < n := by omega
    cases h1 : isL (bs p)
    · cases h2 : isD (bs p)
      · by_cases h3 : bs p = 59
        · exact Or.inr (Or.inr (Or.inr (Or.inl ⟨hp, rfl, rfl, h3, tkK_3 hp h1 h2 h3⟩)))
        · exact Or.inr (Or.inr (Or.inr (Or.inr ⟨hp, rfl, rfl, h3, tkK_4 hp h1 h2 h3⟩)))
      · exact Or.inr (Or.inr (Or.inl ⟨hp, rfl, rfl, tkK_2 hp h1 h2⟩))
    · exact Or.inr (Or.inl ⟨hp, rfl, tkK_1 hp h1⟩)
theorem tkE_le {n : Nat} {bs : Nat → Nat} {p : Nat} (hp : p ≤ n) : tkE n bs p ≤ n := by
  rcases tk_c (n := n) (bs := bs) (p := p) with ⟨_, h⟩ | ⟨_, _, h⟩ | ⟨_, _, _, h⟩ | ⟨h1, _, _, _, h⟩ | ⟨h1, _, _, _, h⟩
  · rw [tkE_0 h]; exact hp
  · rw [tkE_1 h]; exact sk_le hp
  · rw [tkE_2 h]; exact sk_le hp
  · rw [tkE_3 (by omega)]; omega
  · rw [tkE_3 (by omega)]; omega
theorem tkE_gt {n : Nat} {bs : Nat → Nat} {p : Nat} (hp : p < n) : p + 1 ≤ tkE n bs p := by
  rcases tk_c (n := n) (bs := bs) (p := p) with ⟨_, h⟩ | ⟨_, q, h⟩ | ⟨_, _, q, h⟩ | ⟨h1, _, _, _, h⟩ | ⟨h1, _, _, _, h⟩
  · omega
  · rw [tkE_1 h, sk_y hp q]; exact sk_ge (by omega)
  · rw [tkE_2 h, sk_y hp q]; exact sk_ge (by omega)
  · rw [tkE_3 (by omega)]; omega
  · rw [tkE_3 (by omega)]; omega
theorem tkE_ge {n : Nat} {bs : Nat → Nat} {p : Nat} (hp : p ≤ n) : p ≤ tkE n bs p := by
  by_cases z : p < n
  · have := tkE_gt (bs := bs) z; omega
  · rw [tkE_0 (tkK_0.mpr (by omega))]; omega
theorem nx_le {n : Nat} {bs : Nat → Nat} {p : Nat} (hp : p ≤ n) : nx n bs p ≤ n := sk_le (tkE_le hp)
theorem nx_ge {n : Nat} {bs : Nat → Nat} {p : Nat} (hp : p ≤ n) : tkE n bs p ≤ nx n bs p := sk_ge (tkE_le hp)
theorem nx_gt {n : Nat} {bs : Nat → Nat} {p : Nat} (hp : p < n) : p + 1 ≤ nx n bs p := Nat.le_trans (tkE_gt hp) (nx_ge (by omega))
/-- the bytes are small -/
def Bb (n : Nat) (bs : Nat → Nat) : Prop := n ≤ 120 ∧ ∀ j, j < n → bs j < 256
/-! the class's tape -/
def By (σ : St) (n : Nat) (bs : Nat → Nat) : Prop := ∀ j, j < n → gI σ 28 j = nI (bs j)
def Tc (σ : St) (n : Nat) (bs : Nat → Nat) (p : Nat) : Prop := gI σ 27 1 = nI n ∧ gI σ 27 2 = nI (tkK n bs p) ∧ gI σ 27 3 = nI p ∧ gI σ 27 5 = nI (tkE n bs p) ∧ (tkK n bs p = 2 → gI σ 27 4 = nI (num n bs p))
theorem By.fr {σ τ : St} {n : Nat} {bs : Nat → Nat} {S : Nat → Prop} (H : By σ n bs) (F : Fr S σ τ) (h : ¬ S 28) : By τ n bs := fun j hj => by rw [F.i h]; exact H j hj
theorem Tc.fr {σ τ : St} {n : Nat} {bs : Nat → Nat} {p : Nat} {S : Nat → Prop} (H : Tc σ n bs p) (F : Fr S σ τ) (h : ¬ S 27) : Tc τ n bs p := by
  unfold Tc
  rw [F.i h, F.i h, F.i h, F.i h, F.i h]
  exact H
theorem s_isLet {σ : St} {n : Nat} {bs : Nat → Nat} (B : Bb n bs) (Y : By σ n bs) {p : Nat} (hp : p < n) {Q : Bool → Prop} (q : Q (isL (bs p))) : P_X4_isLetter (nI p) σ Q := by
  have h1 := B.1
  have h2 := B.2 p hp
  unfold P_X4_isLetter
  rw [nI_clamp (by omega), Y p hp]
  refine ⟨in_I (by omega) (by omega), s_within ?_⟩
  rw [show decide ((97 : Int32) ≤ nI (bs p) ∧ nI (bs p) ≤ 122) = isL (bs p) from dec_nI (a := 97) (b := 122) (by omega) (by omega) (by omega)]
  exact q
theorem s_isDig {σ : St} {n : Nat} {bs : Nat → Nat} (B : Bb n bs) (Y : By σ n bs) {p : Nat} (hp : p < n) {Q : Bool → Prop} (q : Q (isD (bs p))) : P_X4_isDigit (nI p) σ Q := by
  have h1 := B.1
  have h2 := B.2 p hp
  unfold P_X4_isDigit
  rw [nI_clamp (by omega), Y p hp]
  refine ⟨in_I (by omega) (by omega), s_within ?_⟩
  rw [show decide ((48 : Int32) ≤ nI (bs p) ∧ nI (bs p) ≤ 57) = isD (bs p) from dec_nI (a := 48) (b := 57) (by omega) (by omega) (by omega)]
  exact q
theorem s_st8 {σ : St} {n : Nat} {bs : Nat → Nat} (B : Bb n bs) (Y : By σ n bs) {K Q : St → Prop} : ∀ (f e : Nat) (τ : St), n - e ≤ f → e ≤ n → Fr (isC 27) σ τ → gI τ 27 1 = nI n → gI τ 27 3 = nI e →
    (∀ π, Fr (isC 27) σ π → gI π 27 1 = nI n → gI π 27 3 = nI (sk n bs isBl e) → K π) → P_X4_step_l8 K Q (f + 1) τ := by
  have h1 := B.1
  intro f
  induction f with
  | zero =>
    intro e τ hf he F e1 e3 kk
    rw [P_X4_step_l8, e1, e3]
    refine ⟨fun _ => kk τ F e1 ?_, fun z => absurd (nI_le (by omega) (by omega)) z⟩
    rw [e3, sk_n (by omega)]
  | succ f ih =>
    intro e τ hf he F e1 e3 kk
    rw [P_X4_step_l8, e1, e3, nI_clamp (by omega)]
    refine ⟨fun z => ?_, fun z => ?_⟩
    · have := (nI_leI (by omega) (by omega)).mp z
      exact kk τ F e1 (by rw [e3, sk_n (by omega)])
    · have hlt : e < n := by have := mt (nI_leI (by omega) (by omega)).mpr z; omega
      have h2 := B.2 e hlt
      rw [(Y.fr F (by decide)) e hlt, show (nI (bs e) = 32) ↔ bs e = 32 from nI_eq (b := 32) (by omega) (by omega), nI_1]
      refine ⟨in_I (by omega) (by omega), fun y => kk τ F e1 ?_, fun y => ?_⟩
      · rw [e3, sk_n (fun q => y (of_decide_eq_true q.2))]
      · refine ih (e + 1) _ (by omega) (by omega) (F.sI rfl _ _) (by rw [gI_ne (by omega)]; exact e1) (gI_eq _ _ _ _) (fun π Fπ p1 p3 => kk π Fπ p1 ?_)
        rw [p3, ← sk_y hlt (decide_eq_true y)]
theorem s_skL {σ : St} {n : Nat} {bs : Nat → Nat} (B : Bb n bs) (Y : By σ n bs) (e1 : gI σ 27 1 = nI n) {K Q : St → Prop} : ∀ (f e : Nat) (τ : St), n - e ≤ f → e ≤ n → Fr (isC 27) σ τ → (∀ j, j ≠ 5 → gI τ 27 j = gI σ 27 j) → gI τ 27 5 = nI e →
    (∀ π, Fr (isC 27) σ π → (∀ j, j ≠ 5 → gI π 27 j = gI σ 27 j) → gI π 27 5 = nI (sk n bs isL e) → K π) → P_X4_skipLetters_l0 K Q (f + 1) τ := by
  have h1 := B.1
  intro f
  induction f with
  | zero =>
    intro e τ hf he F o e5 kk
    rw [P_X4_skipLetters_l0, o 1 (by omega), e1, e5]
    refine ⟨fun _ => kk τ F o ?_, fun z => absurd (nI_le (by omega) (by omega)) z⟩
    rw [e5, sk_n (by omega)]
  | succ f ih =>
    intro e τ hf he F o e5 kk
    rw [P_X4_skipLetters_l0, o 1 (by omega), e1, e5]
    refine ⟨fun z => ?_, fun z => ?_⟩
    · have := (nI_leI (by omega) (by omega)).mp z
      exact kk τ F o (by rw [e5, sk_n (by omega)])
    · have hlt : e < n := by have := mt (nI_leI (by omega) (by omega)).mpr z; omega
      rw [nI_1]
      refine s_isLet B (Y.fr F (by decide)) hlt ⟨fun y => kk τ F o ?_, fun y => ?_⟩
      · rw [e5, sk_n (fun q => by rw [y] at q; exact absurd q.2 (by decide))]
      · refine ih (e + 1) _ (by omega) (by omega) (F.sI rfl _ _) (fun j hj => by rw [gI_ne (by omega)]; exact o j hj) (gI_eq _ _ _ _) (fun π Fπ p1 p3 => kk π Fπ p1 ?_)
        rw [p3, ← sk_y hlt y]
theorem s_skD {σ : St} {n : Nat} {bs : Nat → Nat} (B : Bb n bs) (Y : By σ n bs) (e1 : gI σ 27 1 = nI n) {p : Nat} {K Q : St → Prop} : ∀ (f e : Nat) (τ : St), n - e ≤ f → p ≤ e → e ≤ n → Fr (isC 27) σ τ → (∀ j, j ≠ 4 → j ≠ 5 → gI τ 27 j = gI σ 27 j) → gI τ 27 5 = nI e → gI τ 27 4 = nI (nv bs p (e - p)) →
    (∀ π, Fr (isC 27) σ π → (∀ j, j ≠ 4 → j ≠ 5 → gI π 27 j = gI σ 27 j) → gI π 27 5 = nI (sk n bs isD e) → gI π 27 4 = nI (nv bs p (sk n bs isD e - p)) → K π) → P_X4_skipDigits_l5 K Q (f + 1) τ := by
  have h1 := B.1
  intro f
  induction f with
  | zero =>
    intro e τ hf hpe he F o e5 e4 kk
    rw [P_X4_skipDigits_l5, o 1 (by omega) (by omega), e1, e5]
    refine ⟨fun _ => kk τ F o ?_ ?_, fun z => absurd (nI_le (by omega) (by omega)) z⟩
    · rw [e5, sk_n (by omega)]
    · rw [e4, sk_n (by omega)]
  | succ f ih =>
    intro e τ hf hpe he F o e5 e4 kk
    rw [P_X4_skipDigits_l5, o 1 (by omega) (by omega), e1, e5, nI_clamp (by omega)]
    refine ⟨fun z => ?_, fun z => ?_⟩
    · have := (nI_leI (by omega) (by omega)).mp z
      exact kk τ F o (by rw [e5, sk_n (by omega)]) (by rw [e4, sk_n (by omega)])
    · have hlt : e < n := by have := mt (nI_leI (by omega) (by omega)).mpr z; omega
      have h2 := B.2 e hlt
      refine s_isDig B (Y.fr F (by decide)) hlt ⟨fun y => kk τ F o ?_ ?_, fun y => ⟨in_I (by omega) (by omega), ?_⟩⟩
      · rw [e5, sk_n (fun q => by rw [y] at q; exact absurd q.2 (by decide))]
      · rw [e4, sk_n (fun q => by rw [y] at q; exact absurd q.2 (by decide))]
      · have yd := of_decide_eq_true y
        have n1 := nv_le bs p (e - p)
        have ev : mnI 1000 (((10 * gI τ 27 4) + gI τ 28 e) - 48) = nI (nv bs p (e + 1 - p)) := by
          rw [e4, (Y.fr F (by decide)) e hlt, show (10 : Int32) = nI 10 from rfl, pk_mul, nI_add, show (48 : Int32) = nI 48 from rfl, pk_sub (by omega), show (1000 : Int32) = nI 1000 from rfl, mn_I (by omega) (by omega), show e + 1 - p = (e - p) + 1 by omega]
          simp only [nv]
          rw [show p + (e - p) = e by omega, show 10 * nv bs p (e - p) + bs e - 48 = 10 * nv bs p (e - p) + (bs e - 48) by omega]
        rw [ev, gI_ne (by omega), e5, nI_1]
        refine ih (e + 1) _ (by omega) (by omega) (by omega) ((F.sI rfl _ _).sI rfl _ _) (fun j hj hj2 => by rw [gI_ne (by omega), gI_ne (by omega)]; exact o j hj hj2) (gI_eq _ _ _ _) (by rw [gI_ne (by omega), gI_eq]) (fun π Fπ p1 p3 p4 => kk π Fπ p1 ?_ ?_)
        · rw [p3, ← sk_y hlt y]
        · rw [p4, ← sk_y hlt y]
theorem s_step {σ : St} {n : Nat} {bs : Nat → Nat} (B : Bb n bs) (Y : By σ n bs) (e1 : gI σ 27 1 = nI n) {e : Nat} (he : e ≤ n) (e5 : gI σ 27 5 = nI e) {Q : St → Prop} (hQ : ∀ τ, Fr (isC 27) σ τ → Tc τ n bs (sk n bs isBl e) → Q τ) : P_X4_step σ Q := by
  have h1 := B.1
  unfold P_X4_step
  rw [e5]
  refine ⟨n - e + 1, s_st8 B Y (n - e) e _ (Nat.le_refl _) he ((Fr.rf (S := isC 27)).sI rfl _ _) (by rw [gI_ne (by omega)]; exact e1) (gI_eq _ _ _ _) (fun π F p1 p3 s51 es => ?_)⟩
  have hp := sk_le (n := n) (bs := bs) (c := isBl) he
  generalize sk n bs isBl e = p at p3 hp hQ
  have F1 : Fr (isC 27) σ s51 := by rw [es]; exact F.sI rfl _ _
  have f1 : gI s51 27 1 = nI n := by rw [es, gI_ne (by omega)]; exact p1
  have f3 : gI s51 27 3 = nI p := by rw [es, gI_ne (by omega)]; exact p3
  have f5 : gI s51 27 5 = nI p := by rw [es, gI_eq]; exact p3
  have Y1 := Y.fr F1 (by decide)
  rw [f3, f1, nI_clamp (by omega)]
  refine ⟨fun z => ?_, fun z => ?_⟩
  · have hlt : p < n := (nI_ltI (by omega) (by omega)).mp z
    have h2 := B.2 p hlt
    refine s_isLet B Y1 hlt ⟨fun y => s_isDig B Y1 hlt ⟨fun x => ?_, fun x => ?_⟩, fun y => ?_⟩
    · rw [Y1 p hlt, show (nI (bs p) = 59) ↔ bs p = 59 from nI_eq (b := 59) (by omega) (by omega)]
      refine ⟨in_I (by omega) (by omega), fun w => hQ _ ((F1.sI rfl _ _).sI rfl _ _) ?_, fun w => hQ _ ((F1.sI rfl _ _).sI rfl _ _) ?_⟩
      · have k := tkK_4 hlt y x w
        refine ⟨?_, ?_, ?_, ?_, fun q => by omega⟩
        · rw [gI_ne (by omega), gI_ne (by omega)]; exact f1
        · rw [gI_ne (by omega), gI_eq, k]; rfl
        · rw [gI_ne (by omega), gI_ne (by omega)]; exact f3
        · rw [gI_eq, gI_ne (by omega), f5, nI_1, tkE_3 (by omega)]
      · have k := tkK_3 hlt y x w
        refine ⟨?_, ?_, ?_, ?_, fun q => by omega⟩
        · rw [gI_ne (by omega), gI_ne (by omega)]; exact f1
        · rw [gI_ne (by omega), gI_eq, k]; rfl
        · rw [gI_ne (by omega), gI_ne (by omega)]; exact f3
        · rw [gI_eq, gI_ne (by omega), f5, nI_1, tkE_3 (by omega)]
    · have k := tkK_2 hlt y x
      have F2 : Fr (isC 27) s51 (sI (sI s51 27 2 2) 27 4 0) := ((Fr.rf (S := isC 27)).sI rfl _ _).sI rfl _ _
      unfold P_X4_skipDigits
      refine ⟨n - p + 1, s_skD (σ := sI s51 27 2 2) (p := p) B (fun j hj => by rw [gI_ne (by omega)]; exact Y1 j hj) (by rw [gI_ne (by omega)]; exact f1) (n - p) p _ (Nat.le_refl _) (Nat.le_refl _) hp ((Fr.rf (S := isC 27)).sI rfl _ _) (fun j hj hj2 => gI_ne (by omega)) (by rw [gI_ne (by omega), gI_ne (by omega)]; exact f5) (by rw [gI_eq, Nat.sub_self]; rfl) (fun ω G o w5 w4 => hQ ω ((F1.sI rfl _ _).tr G) ?_)⟩
      refine ⟨?_, ?_, ?_, ?_, fun q => ?_⟩
      · rw [o 1 (by omega) (by omega), gI_ne (by omega)]; exact f1
      · rw [o 2 (by omega) (by omega), gI_eq, k]; rfl
      · rw [o 3 (by omega) (by omega), gI_ne (by omega)]; exact f3
      · rw [w5, tkE_2 k]
      · rw [w4]; unfold num; rw [tkE_2 k]
    · have k := tkK_1 hlt y
      unfold P_X4_skipLetters
      refine ⟨n - p + 1, s_skL (σ := sI s51 27 2 1) B (fun j hj => by rw [gI_ne (by omega)]; exact Y1 j hj) (by rw [gI_ne (by omega)]; exact f1) (n - p) p _ (Nat.le_refl _) hp Fr.rf (fun j hj => rfl) (by rw [gI_ne (by omega)]; exact f5) (fun ω G o w5 => hQ ω ((F1.sI rfl _ _).tr G) ?_)⟩
      refine ⟨?_, ?_, ?_, ?_, fun q => by omega⟩
      · rw [o 1 (by omega), gI_ne (by omega)]; exact f1
      · rw [o 2 (by omega), gI_eq, k]; rfl
      · rw [o 3 (by omega), gI_ne (by omega)]; exact f3
      · rw [w5, tkE_1 k]
  · have k : tkK n bs p = 0 := tkK_0.mpr (by have := mt (nI_ltI (by omega) (by omega)).mpr z; omega)
    refine hQ _ (F1.sI rfl _ _) ⟨?_, ?_, ?_, ?_, fun q => by omega⟩
    · rw [gI_ne (by omega)]; exact f1
    · rw [gI_eq, k]; rfl
    · rw [gI_ne (by omega)]; exact f3
    · rw [gI_ne (by omega), tkE_0 k]; exact f5
theorem s_nx {σ : St} {n : Nat} {bs : Nat → Nat} (B : Bb n bs) (Y : By σ n bs) {p : Nat} (hp : p ≤ n) (T : Tc σ n bs p) {Q : St → Prop} (hQ : ∀ τ, Fr (isC 27) σ τ → By τ n bs → Tc τ n bs (nx n bs p) → Q τ) : P_X4_step σ Q :=
  s_step B Y T.1 (tkE_le hp) T.2.2.2.1 (fun τ F T2 => hQ τ F (Y.fr F (by decide)) T2)
/-- a number of the text that lies in a range -/
def isNum (n : Nat) (bs : Nat → Nat) (p a b : Nat) : Bool := decide (tkK n bs p = 2 ∧ a ≤ num n bs p ∧ num n bs p ≤ b)
theorem isNum_iff {n : Nat} {bs : Nat → Nat} {p a b : Nat} : isNum n bs p a b = true ↔ tkK n bs p = 2 ∧ a ≤ num n bs p ∧ num n bs p ≤ b := decide_eq_true_iff
theorem s_isNum {σ : St} {n : Nat} {bs : Nat → Nat} {p : Nat} (T : Tc σ n bs p) {a b : Nat} (ha : a < 2 ^ 31) (hb : b < 2 ^ 31) {Q : Bool → Prop} (q : Q (isNum n bs p a b)) : P_X4_isNumber (nI a) (nI b) σ Q := by
  have k4 := tkK_lt n bs p
  have n4 := num_le n bs p
  unfold P_X4_isNumber
  rw [T.2.1, show (nI (tkK n bs p) = 2) ↔ tkK n bs p = 2 from nI_eq (b := 2) (by omega) (by omega)]
  unfold isNum at q
  refine ⟨fun z => ?_, fun z => s_within ?_⟩
  · rw [decide_eq_false (fun c => z c.1)] at q; exact q
  · rw [T.2.2.2.2 z, dec_nI (by omega) ha hb]
    by_cases c : a ≤ num n bs p ∧ num n bs p ≤ b
    · rw [decide_eq_true ⟨z, c⟩] at q
      rw [decide_eq_true c]
      exact bT q
    · rw [decide_eq_false (fun d => c d.2)] at q
      rw [decide_eq_false c]
      exact bF q
