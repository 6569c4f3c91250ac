/-! THE WORDS OF THE TEXT: key rotten through carved false stone high price beam on off wedge slack pull -/
def wdL : List (List Nat) := [[107, 101, 121], [114, 111, 116, 116, 101, 110], [116, 104, 114, 111, 117, 103, 104], [99, 97, 114, 118, 101, 100], [102, 97, 108, 115, 101], [115, 116, 111, 110, 101], [104, 105, 103, 104], [112, 114, 105, 99, 101], [98, 101, 97, 109], [111, 110], [111, 102, 102], [119, 101, 100, 103, 101], [115, 108, 97, 99, 107], [112, 117, 108, 108]]
def wcL : List Nat := [8179, 266660330, 7873077725, 43948633, 3217595, 10502357, 164222, 8863997, 43051, 419, 11103, 12324668, 10334396, 330573]
def wdN (i : Nat) : Nat := (wdL.getD i []).length
def wdB (i j : Nat) : Nat := (wdL.getD i []).getD j 0
def wcO (i : Nat) : Nat := wcL.getD i 0
theorem wd_7 : ∀ i, i < 14 → wdN i ≤ 7 ∧ 0 < wdN i := by decide +kernel
theorem wd_L : ∀ i, i < 14 → ∀ j, j < wdN i → isL (wdB i j) = true := by decide +kernel
theorem wd_c : ∀ i, i < 14 → wcd (wdB i) 0 (wdN i) = wcO i := by decide +kernel
theorem wd_ln : ∀ i, i < 14 → stLen.getD i 0 = wdN i := by decide +kernel
theorem wd_lnI : ∀ i, i < 14 → (Int32.ofNat (stLen.getD i 0)) >>> ((0 : Int32) &&& 31) = nI (wdN i) := by decide +kernel
theorem wd_ch : ∀ i, i < 14 → ∀ j, j < wdN i → ((((stByt.getD i []).getD j 0) &&& 255 : Int32).toUInt32 % 65536).toInt32 = nI (wdB i j) := by decide +kernel
def isW (n : Nat) (bs : Nat → Nat) (p i : Nat) : Bool := decide (tkK n bs p = 1 ∧ tkE n bs p - p = wdN i ∧ ∀ j, j < wdN i → bs (p + j) = wdB i j)
theorem isW_iff {n : Nat} {bs : Nat → Nat} {p i : Nat} : isW n bs p i = true ↔ tkK n bs p = 1 ∧ tkE n bs p - p = wdN i ∧ ∀ j, j < wdN i → bs (p + j) = wdB i j := decide_eq_true_iff
theorem isW_f {n : Nat} {bs : Nat → Nat} {p i : Nat} (h : ¬ (tkK n bs p = 1 ∧ tkE n bs p - p = wdN i ∧ ∀ j, j < wdN i → bs (p + j) = wdB i j)) : isW n bs p i = false := decide_eq_false h
theorem s_isWord {σ : St} {n : Nat} {bs : Nat → Nat} (B : Bb n bs) (Y : By σ n bs) {p : Nat} (hp : p ≤ n) (T : Tc σ n bs p) {i : Nat} (hi : i < 14) {Q : Bool → Prop} (q : Q (isW n bs p i)) : P_X4_isWord i σ Q := by
  have h1 := B.1
  have k4 := tkK_lt n bs p
  have w7 := wd_7 i hi
  have eg := tkE_ge (bs := bs) hp
  have el := tkE_le (bs := bs) hp
  unfold P_X4_isWord
  rw [T.2.1, show (nI (tkK n bs p) = 1) ↔ tkK n bs p = 1 from nI_eq (b := 1) (by omega) (by omega)]
  refine ⟨fun z => ?_, fun z => ?_⟩
  · rw [isW_f (fun c => z c.1)] at q; exact q
  · show (((gI σ 27 5) - (gI σ 27 3)) = _ → _) ∧ _
    rw [wd_lnI i hi, T.2.2.2.1, T.2.2.1, pk_sub eg, nI_eq (by omega) (by omega)]
    refine ⟨fun y => ⟨wdN i + 1, ?_⟩, fun y => ?_⟩
    · have head : ∀ f j, f + j = wdN i → (∀ u, u < j → bs (p + u) = wdB i u) → P_X4_isWord_l28 i (fun t63 => Q true) Q (f + 1) (nI j) σ := by
        intro f
        induction f with
        | zero =>
          intro j hj A
          rw [P_X4_isWord_l28]
          show (_ ≤ nI j → _) ∧ _
          rw [wd_lnI i hi]
          refine ⟨fun _ => ?_, fun x => absurd (nI_le (by omega) (by omega)) x⟩
          rw [isW_iff.mpr ⟨z, y, fun u hu => A u (by omega)⟩] at q; exact q
        | succ f ih =>
          intro j hj A
          have hjn : j < wdN i := by omega
          rw [P_X4_isWord_l28]
          show (_ ≤ nI j → _) ∧ _
          rw [wd_lnI i hi, T.2.2.1, nI_add, nI_clamp (n := p + j) (by omega), Y (p + j) (by omega), nI_1]
          refine ⟨fun x => absurd ((nI_leI (by omega) (by omega)).mp x) (by omega), fun _ => ⟨in_I (by omega) (by omega), ?_⟩⟩
          refine ⟨fun x => absurd x (by decide), fun _ => ?_⟩
          intro f2
          refine ⟨fun x => absurd x (nI_pos (by omega)), fun _ => ⟨fun _ => ⟨?_, pk_nc _, pk_nc _, ?_⟩, fun x => absurd ?_ x⟩⟩
          · rw [wd_ln i hi]; exact in_I hjn (by omega)
          · rw [nI_clamp (by omega), wd_ch i hi j hjn]
            have b1 := B.2 (p + j) (by omega)
            have b2 := of_decide_eq_true (wd_L i hi j hjn)
            dsimp only
            rw [nI_eq (by omega) (by omega)]
            refine ⟨fun x => ih (j + 1) (by omega) (fun u hu => ?_), fun x => ?_⟩
            · by_cases e : u = j
              · rw [e]; exact x
              · exact A u (by omega)
            · rw [isW_f (fun c => x (c.2.2 j hjn))] at q; exact q
          · rw [wd_ln i hi]; exact nI_lt hjn (by omega)
      exact head (wdN i) 0 (by omega) (fun u hu => by omega)
    · rw [isW_f (fun c => y c.2.1)] at q; exact q
theorem wcd_inj {f g : Nat → Nat} {p q : Nat} : ∀ k m, (∀ j, j < k → isL (f (p + j)) = true) → (∀ j, j < m → isL (g (q + j)) = true) → wcd f p k = wcd g q m → k = m ∧ ∀ j, j < k → f (p + j) = g (q + j) := by
  intro k
  induction k with
  | zero =>
    intro m hf hg e
    cases m with
    | zero => exact ⟨rfl, fun j hj => by omega⟩
    | succ m =>
      have := of_decide_eq_true (hg m (by omega))
      simp only [wcd] at e
      omega
  | succ k ih =>
    intro m hf hg e
    have h1 := of_decide_eq_true (hf k (by omega))
    cases m with
    | zero => simp only [wcd] at e; omega
    | succ m =>
      have h2 := of_decide_eq_true (hg m (by omega))
      simp only [wcd] at e
      obtain ⟨e1, e2⟩ := ih m (fun j hj => hf j (by omega)) (fun j hj => hg j (by omega)) (by omega)
      subst e1
      refine ⟨rfl, fun j hj => ?_⟩
      by_cases z : j = k
      · rw [z]; omega
      · exact e2 j (by omega)
theorem wcd_lt {f : Nat → Nat} {p : Nat} : ∀ k, (∀ j, j < k → isL (f (p + j)) = true) → wcd f p k < 27 ^ k := by
  intro k
  induction k with
  | zero => intro _; simp [wcd]
  | succ k ih =>
    intro hf
    have h1 := of_decide_eq_true (hf k (by omega))
    have h2 := ih (fun j hj => hf j (by omega))
    simp only [wcd]
    rw [Nat.pow_succ]; omega
theorem rk_1 {k : Nat} (h : k ≤ 4) : nI (rk k) = 1 ↔ k = 1 := by
  unfold rk
  split
  · rename_i z; exact ⟨fun q => absurd q (by decide), fun q => by omega⟩
  · exact nI_eq (b := 1) (by omega) (by omega)
theorem rk_2 {k : Nat} (h : k ≤ 4) : nI (rk k) = 2 ↔ k = 2 := by
  unfold rk
  split
  · rename_i z; exact ⟨fun q => absurd q (by decide), fun q => by omega⟩
  · exact nI_eq (b := 2) (by omega) (by omega)
theorem rk_0 {k : Nat} (h : k ≤ 4) : nI (rk k) = 0 ↔ k = 0 := by
  unfold rk
  split
  · rename_i z; exact ⟨fun q => absurd q (by decide), fun q => by omega⟩
  · exact nI_eq (b := 0) (by omega) (by omega)
theorem rk_3 {k : Nat} (h : k ≤ 4) : nI (rk k) = 3 ↔ 3 ≤ k := by
  unfold rk
  split
  · rename_i z; exact ⟨fun _ => by omega, fun _ => rfl⟩
  · rw [show (nI k = 3) ↔ k = 3 from nI_eq (b := 3) (by omega) (by omega)]; omega
theorem m_isWord {σ : St} {n : Nat} {bs : Nat → Nat} {c : Int32} {p : Nat} (hp : p ≤ n) (T : Tr σ n bs c p) {i : Nat} (hi : i < 14) {v : Int64} (hv : v = lN (wcO i)) {Q : Bool → Prop} (q : Q (isW n bs p i)) : P_X7_isWord v σ Q := by
  have k4 := tkK_lt n bs p
  have w7 := wd_7 i hi
  have eg := tkE_ge (bs := bs) hp
  unfold P_X7_isWord
  rw [T.2.2.1, rk_1 k4]
  refine ⟨fun z => ?_, fun z => ?_⟩
  · rw [isW_f (fun c => z c.1)] at q; exact q
  · rw [T.2.2.2.2.2.1 z, hv, lg_cmp_eq]
    have hl : ∀ j, j < tkE n bs p - p → isL (bs (p + j)) = true := fun j hj => sk_in (n := n) (c := isL) hp (by omega) (by rw [← tkE_1 z]; omega)
    have wl : ∀ j, j < wdN i → isL (wdB i (0 + j)) = true := fun j hj => by rw [Nat.zero_add]; exact wd_L i hi j hj
    have cb : wcO i < 27 ^ 12 := by
      rw [← wd_c i hi]
      refine Nat.lt_of_lt_of_le (wcd_lt (wdN i) wl) ?_
      exact Nat.pow_le_pow_right (by omega) (by omega)
    have c27 : (27 : Nat) ^ 12 < 2 ^ 63 := by decide
    have key : wcI bs p (tkE n bs p - p) = lN (wcO i) ↔ (tkE n bs p - p = wdN i ∧ ∀ j, j < wdN i → bs (p + j) = wdB i j) := by
      unfold wcI
      by_cases k12 : tkE n bs p - p ≤ 12
      · have wb : wcd bs p (tkE n bs p - p) < 27 ^ 12 := Nat.lt_of_lt_of_le (wcd_lt _ hl) (Nat.pow_le_pow_right (by omega) k12)
        rw [if_pos k12, pk_lEQ (Nat.lt_trans wb c27) (Nat.lt_trans cb c27), ← wd_c i hi]
        constructor
        · intro e
          obtain ⟨e1, e2⟩ := wcd_inj _ _ hl wl e
          refine ⟨e1, fun j hj => ?_⟩
          have := e2 j (by omega)
          rwa [Nat.zero_add] at this
        · rintro ⟨e1, e2⟩
          rw [e1]
          have cg : ∀ m, m ≤ wdN i → wcd bs p m = wcd (wdB i) 0 m := by
            intro m
            induction m with
            | zero => intro _; rfl
            | succ m ihm => intro hm; simp only [wcd]; rw [ihm (by omega), Nat.zero_add, e2 m (by omega)]
          exact cg _ (Nat.le_refl _)
      · rw [if_neg k12]
        refine ⟨fun e => ?_, fun e => by omega⟩
        have : (0 : Int64) ≤ -1 := by
          rw [e]; exact (pk_lLE (a := 0) (by omega) (Nat.lt_trans cb c27)).mpr (Nat.zero_le _)
        exact absurd this (by decide)
    rw [key]
    refine ⟨fun y => ?_, fun y => ?_⟩
    · rw [isW_f (fun d => y d.2)] at q; exact q
    · rw [isW_iff.mpr ⟨z, y⟩] at q; exact q
