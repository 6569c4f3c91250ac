/-! THE TEXT OF A HOUSE, the class's side -/
abbrev inTl : Nat → Prop := fun k => k = 27 ∨ (29 ≤ k ∧ k ≤ 38)
theorem c27_Tl (k : Nat) (z : isC 27 k) : inTl k := Or.inl z
theorem h29_Tl (k : Nat) (z : inH 29 k) : inTl k := by have := z.1; have := z.2; omega
theorem s35_Tl (k : Nat) (z : inS 35 k) : inTl k := by have := z.1; have := z.2; omega
/-- the class stands at a token, with a house on its site -/
def Ts (σ : St) (n : Nat) (bs : Nat → Nat) (h : MH) (p : Nat) : Prop := By σ n bs ∧ Tc σ n bs p ∧ Hs σ 29 h
theorem Ts.go {σ : St} {n : Nat} {bs : Nat → Nat} {h : MH} {p : Nat} (B : Bb n bs) (T : Ts σ n bs h p) (hp : p ≤ n) {Q : St → Prop} (hQ : ∀ τ, Fr (isC 27) σ τ → Ts τ n bs h (nx n bs p) → Q τ) : P_X4_step σ Q :=
  s_nx B T.1 hp T.2.1 (fun τ F Y T2 => hQ τ F ⟨Y, T2, T.2.2.fr F (fun j hj (z : 29 + j = 27) => by omega)⟩)
theorem Ts.nu {σ : St} {n : Nat} {bs : Nat → Nat} {h : MH} {p : Nat} (T : Ts σ n bs h p) {a b : Nat} (ha : a < 2 ^ 31) (hb : b < 2 ^ 31) {Q : Bool → Prop} (q : Q (isNum n bs p a b)) : P_X4_isNumber (nI a) (nI b) σ Q := s_isNum T.2.1 ha hb q
theorem Ts.word {σ : St} {n : Nat} {bs : Nat → Nat} {h : MH} {p : Nat} (B : Bb n bs) (T : Ts σ n bs h p) (hp : p ≤ n) {i : Nat} (hi : i < 14) {Q : Bool → Prop} (q : Q (isW n bs p i)) : P_X4_isWord i σ Q := s_isWord B T.1 hp T.2.1 hi q
theorem Ts.v {σ : St} {n : Nat} {bs : Nat → Nat} {h : MH} {p a b : Nat} (T : Ts σ n bs h p) (c : isNum n bs p a b = true) : gI σ 27 4 = nI (num n bs p) := T.2.1.2.2.2.2 (num_k c)
theorem Ts.hs {σ τ : St} {n : Nat} {bs : Nat → Nat} {h h2 : MH} {p : Nat} (T : Ts σ n bs h p) (F : Fr (inH 29) σ τ) (H : Hs τ 29 h2) : Ts τ n bs h2 p :=
  ⟨T.1.fr F (fun z => by have := z.1; omega), T.2.1.fr F (fun z => by have := z.1; omega), H⟩
/-- its end -/
def Te (σ : St) (n : Nat) (bs : Nat → Nat) (r : R3) (Q : Bool → St → Prop) : Prop := ∀ τ, Fr inTl σ τ → By τ n bs → Tc τ n bs r.2.2 → (r.1 = true → Hs τ 29 r.2.1) → Q r.1 τ
theorem Te.no {σ τ : St} {n : Nat} {bs : Nat → Nat} {h h2 : MH} {p : Nat} {Q : Bool → St → Prop} (E : Te σ n bs (false, h2, p) Q) (F : Fr inTl σ τ) (T : Ts τ n bs h p) : Q false τ := E τ F T.1 T.2.1 (fun z => absurd (show (false : Bool) = true from z) (by decide))
theorem Te.yes {σ τ : St} {n : Nat} {bs : Nat → Nat} {h : MH} {p : Nat} {Q : Bool → St → Prop} (E : Te σ n bs (true, h, p) Q) (F : Fr inTl σ τ) (T : Ts τ n bs h p) : Q true τ := E τ F T.1 T.2.1 (fun _ => T.2.2)
theorem Te.fr {σ τ : St} {n : Nat} {bs : Nat → Nat} {r : R3} {Q : Bool → St → Prop} (E : Te σ n bs r Q) (F : Fr inTl σ τ) : Te τ n bs r Q := fun π G => E π (F.tr G)
theorem s_price {σ : St} {n : Nat} {bs : Nat → Nat} (B : Bb n bs) {h : MH} {p : Nat} (T : Ts σ n bs h p) (hp : p ≤ n) (hw : Wf h) {k w x : Nat} (h4 : w < 4) (hc : hC h w < 7) {Q : Bool → St → Prop} (E : Te σ n bs (pPr n bs k h w x p) Q) :
    P_X4_isWord 7 σ (fun r110 => ((r110 = false) → P_X0_put 29 (nI k) (nI w) (nI x) (10) σ (fun t164 => Q true t164)) ∧ ((r110 = true) → P_X4_step σ (fun t120 => P_X4_isNumber (0) (999) t120 (fun r131 => ((r131 = true) → P_X4_step t120 (fun t152 => P_X0_put 29 (nI k) (nI w) (nI x) (gI t120 27 4) t152 (fun t164 => Q true t164))) ∧ ((r131 = false) → Q false t120))))) := by
  unfold pPr at E
  have b := nx_le (bs := bs) hp
  refine T.word B hp (by omega) ⟨fun z => ?_, fun z => ?_⟩
  · rw [if_neg (by rw [z]; decide)] at E
    exact s_put (p := 10) T.2.2 hw h4 hc (fun τ F H => E.yes (F.mono h29_Tl) (T.hs F H))
  · rw [if_pos z] at E
    refine T.go B hp (fun τ F T1 => T1.nu (a := 0) (b := 999) (by omega) (by omega) ⟨fun y => ?_, fun y => ?_⟩)
    · rw [if_pos y] at E
      rw [T1.v y]
      exact T1.go B b (fun ρ F2 T2 => s_put T2.2.2 hw h4 hc (fun π F3 H => E.yes (((F.mono c27_Tl).tr (F2.mono c27_Tl)).tr (F3.mono h29_Tl)) (T2.hs F3 H)))
    · rw [if_neg (by rw [y]; decide)] at E
      exact E.no (F.mono c27_Tl) T1
theorem s_tellStone {σ : St} {n : Nat} {bs : Nat → Nat} (B : Bb n bs) {h : MH} {p : Nat} (T : Ts σ n bs h p) (hp : p ≤ n) (hw : Wf h) {k : Nat} {Q : Bool → St → Prop} (E : Te σ n bs (pSt n bs k h p) Q) : P_X5_tellStone (nI k) σ Q := by
  have b := nx_le (bs := bs) hp
  have b2 := nx_le (bs := bs) b
  have b3 := nx_le (bs := bs) b2
  unfold P_X5_tellStone
  unfold pSt at E
  refine T.nu (a := 0) (b := 3) (by omega) (by omega) ⟨fun z => ?_, fun z => ?_⟩
  · rw [if_neg (fun c => by rw [z] at c; exact absurd c.1 (by decide))] at E
    exact E.no Fr.rf T
  · have v := T.v z
    have n3 := (num_in z).2
    have h4 : num n bs p < 4 := by omega
    have c7 := (hw.1 _ h4).1
    rw [v, nI_clamp (by omega), show gI σ 33 (num n bs p) = nI (hC h (num n bs p)) from (T.2.2.1 _ h4).1]
    rw [show (nI (hC h (num n bs p)) < 7) ↔ hC h (num n bs p) < 7 from nI_ltI (b := 7) (by omega) (by omega)]
    refine ⟨in_I h4 (by omega), fun hc => ?_, fun hc => ?_⟩
    · rw [if_pos ⟨z, hc⟩] at E
      unfold pHi at E
      refine T.go B hp (fun τ F T1 => T1.word B b (by omega) ⟨fun y => ?_, fun y => ?_⟩)
      · rw [if_neg (by rw [y]; decide)] at E
        exact s_price (x := 5) B T1 b hw h4 hc (E.fr (F.mono c27_Tl))
      · rw [if_pos y] at E
        refine T1.go B b (fun ρ F2 T2 => T2.nu (a := 1) (b := 30) (by omega) (by omega) ⟨fun x => ?_, fun x => ?_⟩)
        · rw [if_pos x] at E
          rw [T2.v x]
          exact T2.go B b2 (fun π F3 T3 => s_price B T3 b3 hw h4 hc (E.fr (((F.mono c27_Tl).tr (F2.mono c27_Tl)).tr (F3.mono c27_Tl))))
        · rw [if_neg (by rw [x]; decide)] at E
          exact E.no ((F.mono c27_Tl).tr (F2.mono c27_Tl)) T2
    · rw [if_neg (fun c => hc c.2)] at E
      exact E.no Fr.rf T
theorem s_tellBeam {σ : St} {n : Nat} {bs : Nat → Nat} (B : Bb n bs) {h : MH} {p : Nat} (T : Ts σ n bs h p) (hp : p ≤ n) (hw : Wf h) {Q : Bool → St → Prop} (E : Te σ n bs (pBm n bs h p) Q) : P_X5_tellBeam σ Q := by
  have b := nx_le (bs := bs) hp
  unfold P_X5_tellBeam
  unfold pBm at E
  refine T.nu (a := 0) (b := 2) (by omega) (by omega) ⟨fun z => ?_, fun z => ?_⟩
  · rw [if_pos z] at E
    rw [T.v z]
    have n3 := (num_in z).2
    refine T.go B hp (fun τ F T1 => T1.word B b (by omega) ⟨fun y => ?_, fun y => T1.word B b (by omega) ⟨fun x => ?_, fun x => ?_⟩⟩)
    · rw [if_pos y] at E
      rw [y]
      refine s_layBeam T1.2.2 hw (by omega) true (fun ρ F2 H => ?_)
      rw [if_pos rfl] at H
      exact (T1.hs F2 H).go B b (fun π F3 T3 => E.yes (((F.mono c27_Tl).tr (F2.mono h29_Tl)).tr (F3.mono c27_Tl)) T3)
    · rw [if_neg (by rw [y]; decide), if_pos x] at E
      rw [y]
      refine s_layBeam T1.2.2 hw (by omega) false (fun ρ F2 H => ?_)
      rw [if_neg (by decide)] at H
      exact (T1.hs F2 H).go B b (fun π F3 T3 => E.yes (((F.mono c27_Tl).tr (F2.mono h29_Tl)).tr (F3.mono c27_Tl)) T3)
    · rw [if_neg (by rw [y]; decide), if_neg (by rw [x]; decide)] at E
      exact E.no (F.mono c27_Tl) T1
  · rw [if_neg (by rw [z]; decide)] at E
    exact E.no Fr.rf T
theorem s_tellWedge {σ : St} {n : Nat} {bs : Nat → Nat} (B : Bb n bs) {h : MH} {p : Nat} (T : Ts σ n bs h p) (hp : p ≤ n) (hw : Wf h) {Q : Bool → St → Prop} (E : Te σ n bs (pWe n bs h p) Q) : P_X5_tellWedge σ Q := by
  have b := nx_le (bs := bs) hp
  unfold P_X5_tellWedge
  unfold pWe at E
  refine T.nu (a := 0) (b := 3) (by omega) (by omega) ⟨fun z => ?_, fun z => ?_⟩
  · rw [if_pos z] at E
    rw [T.v z]
    have n3 := (num_in z).2
    refine T.go B hp (fun τ F T1 => T1.nu (a := 0) (b := 20) (by omega) (by omega) ⟨fun y => ⟨in_I (by omega) (by omega), ?_⟩, fun y => ?_⟩)
    · rw [if_pos y] at E
      rw [T1.v y, nI_clamp (by omega)]
      have F2 : Fr (inH 29) τ (sI τ 34 (num n bs p) (nI (num n bs (nx n bs p)))) := Fr.rf.sI ⟨by omega, by omega⟩ _ _
      have H2 : Hs (sI τ 34 (num n bs p) (nI (num n bs (nx n bs p)))) 29 _ := Hs_we T1.2.2 hw (by omega) (num n bs (nx n bs p))
      exact (T1.hs F2 H2).go B b (fun π F3 T3 => E.yes (((F.mono c27_Tl).tr (F2.mono h29_Tl)).tr (F3.mono c27_Tl)) T3)
    · rw [if_neg (by rw [y]; decide)] at E
      exact E.no (F.mono c27_Tl) T1
  · rw [if_neg (by rw [z]; decide)] at E
    exact E.no Fr.rf T
theorem s_tellSlack {σ : St} {n : Nat} {bs : Nat → Nat} (B : Bb n bs) {h : MH} {p : Nat} (T : Ts σ n bs h p) (hp : p ≤ n) (hw : Wf h) {Q : Bool → St → Prop} (E : Te σ n bs (pSl n bs h p) Q) : P_X5_tellSlack σ Q := by
  unfold P_X5_tellSlack
  unfold pSl at E
  refine T.nu (a := 0) (b := 99) (by omega) (by omega) ⟨fun z => ?_, fun z => ?_⟩
  · rw [if_pos z] at E
    rw [T.v z]
    have F2 : Fr (inH 29) σ (sI σ 29 6 (nI (num n bs p))) := Fr.rf.sI ⟨by omega, by omega⟩ _ _
    have H2 := Hs_sl T.2.2 hw (num n bs p)
    exact (T.hs F2 H2).go B hp (fun π F3 T3 => E.yes ((F2.mono h29_Tl).tr (F3.mono c27_Tl)) T3)
  · rw [if_neg (by rw [z]; decide)] at E
    exact E.no Fr.rf T
theorem s_tellPulls15 {σ : St} {n : Nat} {bs : Nat → Nat} (B : Bb n bs) {K : St → Prop} {Q : Bool → St → Prop} {r : R3}
    (kk : ∀ θ, Fr inTl σ θ → r.1 = true → Ts θ n bs r.2.1 r.2.2 → K θ) (qq : ∀ θ (h : MH), Fr inTl σ θ → r.1 = false → Ts θ n bs h r.2.2 → Q false θ) :
    ∀ f d (h : MH) p (θ : St), n - p ≤ f → d ≤ p → p ≤ n → Fr inTl σ θ → Ts θ n bs h p → Wf h → pPu n bs f h p = r → P_X5_tellPulls_l15 K Q (f + 1) (nI d) θ := by
  have h1 := B.1
  intro f
  induction f with
  | zero =>
    intro d h p θ hf hd hp F T hw e
    have k0 : tkK n bs p = 0 := tkK_0.mpr (by omega)
    have e2 : r = (true, h, p) := e.symm
    have kf : K θ := kk θ F (by rw [e2]) (by rw [e2]; exact T)
    rw [P_X5_tellPulls_l15, T.2.1.2.1, k0]
    exact ⟨fun _ => kf, fun _ => ⟨fun _ => kf, fun z => absurd z (by decide)⟩⟩
  | succ f ih =>
    intro d h p θ hf hd hp F T hw e
    have k4 := tkK_lt n bs p
    simp only [pPu] at e
    rw [P_X5_tellPulls_l15, T.2.1.2.1, show (nI (tkK n bs p) = 2) ↔ tkK n bs p = 2 from nI_eq (b := 2) (by omega) (by omega)]
    by_cases k2 : tkK n bs p = 2
    · have plt : p < n := tk_lt (bs := bs) (by omega)
      rw [if_pos k2] at e
      refine ⟨fun z => absurd ((nI_leI (a := 120) (by omega) (by omega)).mp z) (by omega), fun _ => ⟨fun z => absurd k2 z, fun _ => T.nu (a := 0) (b := 3) (by omega) (by omega) ⟨fun z => ?_, fun z => ?_⟩⟩⟩
      · have v := T.v z
        have n3 := (num_in z).2
        have h4 : num n bs p < 4 := by omega
        refine s_measure T.2.2 hw (by omega) (fun τ G hV => ?_)
        have v2 : gI τ 27 4 = nI (num n bs p) := by rw [G.i (fun z => by have := z.1; omega)]; exact v
        rw [hV.1, v2]
        have T1 : Ts τ n bs h p := ⟨T.1.fr G (fun z => by have := z.1; omega), T.2.1.fr G (fun z => by have := z.1; omega), T.2.2.fr G (fun j hj z => by have := z.1; omega)⟩
        refine s_canPullAt hV hw (prB_now hw) h4 ?_
        cases hc : gs h (now h) (num n bs p) && sf h (now h - 8 ^ num n bs p)
        · rw [if_neg (fun c => by have := c.2; unfold cpB at this; rw [hc] at this; exact absurd this (by decide))] at e
          have e2 : r = (false, h, p) := e.symm
          exact bF' (qq τ h (F.tr (G.mono s35_Tl)) (by rw [e2]) (by rw [e2]; exact T1))
        · have hl := cpB_c hw h4 hc
          rw [if_pos ⟨z, hc⟩] at e
          refine bT' (s_takeLowest T1.2.2 hw h4 hl (fun ρ G2 H2 => (T1.hs G2 H2).go B hp (fun π G3 T3 => ?_)))
          rw [nI_1]
          have gt := nx_gt (bs := bs) plt
          exact ih (d + 1) _ _ π (by omega) (by omega) (nx_le hp) (((F.tr (G.mono s35_Tl)).tr (G2.mono h29_Tl)).tr (G3.mono c27_Tl)) T3 (wf_take hw hl) e
      · rw [if_neg (fun c => by rw [z] at c; exact absurd c.1 (by decide))] at e
        have e2 : r = (false, h, p) := e.symm
        exact qq θ h F (by rw [e2]) (by rw [e2]; exact T)
    · rw [if_neg k2] at e
      have e2 : r = (true, h, p) := e.symm
      have kf : K θ := kk θ F (by rw [e2]) (by rw [e2]; exact T)
      exact ⟨fun _ => kf, fun _ => ⟨fun _ => kf, fun z => absurd z k2⟩⟩
theorem s_tellPulls {σ : St} {n : Nat} {bs : Nat → Nat} (B : Bb n bs) {h : MH} {p : Nat} (T : Ts σ n bs h p) (hp : p ≤ n) (hw : Wf h) {Q : Bool → St → Prop} (E : Te σ n bs (pPl n bs h p) Q) : P_X5_tellPulls σ Q := by
  have k4 := tkK_lt n bs p
  unfold P_X5_tellPulls
  unfold pPl at E
  rw [T.2.1.2.1, show (nI (tkK n bs p) = 2) ↔ tkK n bs p = 2 from nI_eq (b := 2) (by omega) (by omega)]
  refine ⟨fun z => ⟨n - p + 1, ?_⟩, fun z => ?_⟩
  · rw [if_pos z] at E
    refine s_tellPulls15 (σ := σ) (r := pPu n bs (n - p) h p) B (fun θ F e T1 => ?_) (fun θ h2 F e T1 => ?_) (n - p) 0 h p σ (Nat.le_refl _) (Nat.zero_le _) hp Fr.rf T hw rfl
    · have := E θ F T1.1 T1.2.1 (fun _ => T1.2.2)
      rw [e] at this; exact this
    · have := E θ F T1.1 T1.2.1 (fun y => by rw [e] at y; exact absurd y (by decide))
      rw [e] at this; exact this
  · rw [if_neg z] at E
    exact E.no Fr.rf T
theorem s_nameOf {σ : St} {k : Nat} (hk : k < 6) {Q : Nat → Prop} (q : Q (if k = 0 then 5 else k - 1)) : P_X5_nameOf (nI k) σ Q := by
  unfold P_X5_nameOf
  rcases (show k = 0 ∨ k = 1 ∨ k = 2 ∨ k = 3 ∨ k = 4 ∨ k = 5 by omega) with rfl | rfl | rfl | rfl | rfl | rfl
  · exact ⟨fun z => absurd z (by decide), fun z => absurd z (by decide), fun z => absurd z (by decide), fun z => absurd z (by decide), fun z => absurd z (by decide), fun _ => q⟩
  · exact ⟨fun _ => q, fun z => absurd z (by decide), fun z => absurd z (by decide), fun z => absurd z (by decide), fun z => absurd z (by decide), fun z => absurd z (by decide)⟩
  · exact ⟨fun z => absurd z (by decide), fun _ => q, fun z => absurd z (by decide), fun z => absurd z (by decide), fun z => absurd z (by decide), fun z => absurd z (by decide)⟩
  · exact ⟨fun z => absurd z (by decide), fun z => absurd z (by decide), fun _ => q, fun z => absurd z (by decide), fun z => absurd z (by decide), fun z => absurd z (by decide)⟩
  · exact ⟨fun z => absurd z (by decide), fun z => absurd z (by decide), fun z => absurd z (by decide), fun _ => q, fun z => absurd z (by decide), fun z => absurd z (by decide)⟩
  · exact ⟨fun z => absurd z (by decide), fun z => absurd z (by decide), fun z => absurd z (by decide), fun z => absurd z (by decide), fun _ => q, fun z => absurd z (by decide)⟩
theorem s_tellItem {σ : St} {n : Nat} {bs : Nat → Nat} (B : Bb n bs) {h : MH} {p : Nat} (T : Ts σ n bs h p) (hp : p ≤ n) (hw : Wf h) {Q : Bool → St → Prop} (E : Te σ n bs (pIt n bs h p) Q) : P_X5_tellItem σ Q := by
  have b := nx_le (bs := bs) hp
  unfold P_X5_tellItem
  refine ⟨7, ?_⟩
  have stp : ∀ (K : St → Prop) (m k : Nat), k < 6 → (isW n bs p (if k = 0 then 5 else k - 1) = false → P_X5_tellItem_l2 K Q m (nI (k + 1)) σ) → (isW n bs p (if k = 0 then 5 else k - 1) = true → Te σ n bs (pSt n bs k h (nx n bs p)) Q) → P_X5_tellItem_l2 K Q (m + 1) (nI k) σ := by
    intro K m k hk no yes
    rw [P_X5_tellItem_l2]
    refine ⟨fun z => absurd ((nI_leI (a := 6) (by omega) (by omega)).mp z) (by omega), fun _ => s_nameOf hk (T.word B hp (by split <;> omega) ⟨fun z => ?_, fun z => ?_⟩)⟩
    · rw [nI_1]; exact no z
    · exact T.go B hp (fun τ F T1 => s_tellStone B T1 b hw ((yes z).fr (F.mono c27_Tl)))
  unfold pIt at E
  refine stp _ 6 0 (by omega) (fun c0 => ?_) (fun c0 => by rw [if_pos (show isW n bs p 5 = true from c0)] at E; exact E)
  rw [if_neg (by rw [show isW n bs p 5 = false from c0]; decide)] at E
  refine stp _ 5 1 (by omega) (fun c1 => ?_) (fun c1 => by rw [if_pos (show isW n bs p 0 = true from c1)] at E; exact E)
  rw [if_neg (by rw [show isW n bs p 0 = false from c1]; decide)] at E
  refine stp _ 4 2 (by omega) (fun c2 => ?_) (fun c2 => by rw [if_pos (show isW n bs p 1 = true from c2)] at E; exact E)
  rw [if_neg (by rw [show isW n bs p 1 = false from c2]; decide)] at E
  refine stp _ 3 3 (by omega) (fun c3 => ?_) (fun c3 => by rw [if_pos (show isW n bs p 2 = true from c3)] at E; exact E)
  rw [if_neg (by rw [show isW n bs p 2 = false from c3]; decide)] at E
  refine stp _ 2 4 (by omega) (fun c4 => ?_) (fun c4 => by rw [if_pos (show isW n bs p 3 = true from c4)] at E; exact E)
  rw [if_neg (by rw [show isW n bs p 3 = false from c4]; decide)] at E
  refine stp _ 1 5 (by omega) (fun c5 => ?_) (fun c5 => by rw [if_pos (show isW n bs p 4 = true from c5)] at E; exact E)
  rw [if_neg (by rw [show isW n bs p 4 = false from c5]; decide)] at E
  rw [P_X5_tellItem_l2]
  refine ⟨fun _ => ?_, fun z => absurd (nI_le (a := 6) (b := 6) (by omega) (by omega)) z⟩
  refine T.word B hp (by omega) ⟨fun c => ?_, fun c => ?_⟩
  · rw [if_neg (by rw [c]; decide)] at E
    refine T.word B hp (by omega) ⟨fun c => ?_, fun c => ?_⟩
    · rw [if_neg (by rw [c]; decide)] at E
      refine T.word B hp (by omega) ⟨fun c => ?_, fun c => ?_⟩
      · rw [if_neg (by rw [c]; decide)] at E
        refine T.word B hp (by omega) ⟨fun c => ?_, fun c => ?_⟩
        · rw [if_neg (by rw [c]; decide)] at E
          exact E.no Fr.rf T
        · rw [if_pos c] at E
          exact T.go B hp (fun τ F T1 => s_tellPulls B T1 b hw (E.fr (F.mono c27_Tl)))
      · rw [if_pos c] at E
        exact T.go B hp (fun τ F T1 => s_tellSlack B T1 b hw (E.fr (F.mono c27_Tl)))
    · rw [if_pos c] at E
      exact T.go B hp (fun τ F T1 => s_tellWedge B T1 b hw (E.fr (F.mono c27_Tl)))
  · rw [if_pos c] at E
    exact T.go B hp (fun τ F T1 => s_tellBeam B T1 b hw (E.fr (F.mono c27_Tl)))
theorem s_tell17 {σ : St} {n : Nat} {bs : Nat → Nat} (B : Bb n bs) {K : St → Prop} {Q : Int32 → St → Prop} {r : Bool × Nat × MH × Nat}
    (no : ∀ θ, Fr inTl σ θ → r.1 = false → r.2.2.2 ≤ n → gI θ 27 3 = nI r.2.2.2 → K θ) (yes : ∀ θ, Fr inTl σ θ → r.1 = true → Hs θ 29 r.2.2.1 → Wf r.2.2.1 → hN r.2.2.1 ≤ 999 → r.2.1 ≤ 121 → Q (nI r.2.1) θ) :
    ∀ f k (h : MH) p (θ : St), n < f + p → k ≤ p + 1 → p ≤ n → Fr inTl σ θ → Ts θ n bs h p → Wf h → hN h ≤ 999 → pHo n bs f k h p = r → P_X5_tell_l17 K Q (f + 1) (nI k) θ := by
  have h1 := B.1
  intro f
  induction f with
  | zero => intro k h p θ hf; omega
  | succ f ih =>
    intro k h p θ hf hk hp F T hw hn e
    obtain ⟨⟨o1, o2, o3⟩, o4⟩ := ok_pIt (bs := bs) hp hw hn
    simp only [pHo] at e
    rw [P_X5_tell_l17]
    refine ⟨fun z => ?_, fun z => s_tellItem B T hp hw (fun τ G Y1 T1 H1 => ⟨fun c => ?_, fun c => ?_⟩)⟩
    · have k1 : 120 < k := (nI_ltI (a := 120) (by omega) (by omega)).mp z
      rw [pIt_end (by omega), if_neg (fun q => absurd (show (false : Bool) = true from q) (by decide))] at e
      subst e
      exact no θ F rfl hp T.2.1.2.2.1
    · rw [if_pos c] at e
      have k4 := tkK_lt n bs (pIt n bs h p).2.2
      have k1 : k ≤ 120 := by have := mt (nI_ltI (a := 120) (by omega) (by omega)).mpr z; omega
      have p1 := o4 c
      rw [T1.2.1, show (nI (tkK n bs (pIt n bs h p).2.2) = 0) ↔ tkK n bs (pIt n bs h p).2.2 = 0 from nI_eq (b := 0) (by omega) (by omega), show (nI (tkK n bs (pIt n bs h p).2.2) = 3) ↔ tkK n bs (pIt n bs h p).2.2 = 3 from nI_eq (b := 3) (by omega) (by omega)]
      have T2 : Ts τ n bs (pIt n bs h p).2.1 (pIt n bs h p).2.2 := ⟨Y1, T1, H1 c⟩
      refine ⟨fun z0 => ⟨fun z3 => ?_, fun z3 => ?_⟩, fun z0 => ?_⟩
      · rw [if_neg z0, if_pos z3] at e
        have gt := nx_gt (bs := bs) (tk_lt z0)
        refine T2.go B o2 (fun ρ G2 T3 => ?_)
        rw [nI_1]
        exact ih (k + 1) _ _ ρ (by omega) (by omega) (nx_le o2) ((F.tr G).tr (G2.mono c27_Tl)) T3 (o3 c).1 (o3 c).2 e
      · rw [if_neg z0, if_neg z3] at e
        subst e
        exact no τ (F.tr G) rfl o2 T1.2.2.1
      · rw [if_pos z0] at e
        subst e
        exact yes τ (F.tr G) rfl (H1 c) (o3 c).1 (o3 c).2 (by show k ≤ 121; omega)
    · rw [if_neg (by rw [c]; decide)] at e
      subst e
      exact no τ (F.tr G) rfl o2 T1.2.2.1
