/-! WHAT WOULD BE BEST: FREES, KIND, HELP, TILL -/
def cnH (h : MH) : Nat := cnt h okT (now h + 1)
theorem cnH_le {h : MH} (hw : Wf h) : cnH h ≤ 4096 := by
  have := cnt_le (h := h) (ok := okT) (now h + 1)
  have := now_lt hw
  unfold cnH; omega
/-- the most of several numbers, and the first one that has it -/
def bsF (f : Nat → Nat) (g : Nat → Int32) : Nat → Nat × Int32 → Nat × Int32
  | 0, x => x
  | k + 1, x => if f k ≤ (bsF f g k x).1 then bsF f g k x else (f k, g k)
theorem bsF_le {f : Nat → Nat} {g : Nat → Int32} {x : Nat × Int32} {n : Nat} (hx : x.1 ≤ 4096) (hf : ∀ k, k < n → f k ≤ 4096) : ∀ k, k ≤ n → (bsF f g k x).1 ≤ 4096 := by
  intro k
  induction k with
  | zero => intro _; exact hx
  | succ k ih =>
    intro hk
    simp only [bsF]
    split
    · exact ih (by omega)
    · exact hf k (by omega)
theorem Hs13 {σ τ : St} {h : MH} (H : Hs σ 13 h) (F : Fr inW σ τ) : Hs τ 13 h := H.fr F (fun j hj z => by omega)
abbrev inTr : Nat → Prop := fun k => (13 ≤ k ∧ k ≤ 22) ∨ k = 24
theorem inTr_sc (k : Nat) (z : inTr k) : sc k := by omega
theorem inW_Tr (k : Nat) (z : inW k) : inTr k := by omega
theorem inH_Tr (k : Nat) (z : inH 13 k) : inTr k := by have := z.1; have := z.2; omega
abbrev inMF : Nat → Prop := fun k => k = 50 ∨ (52 ≤ k ∧ k ≤ 55)
theorem inR_MF (k : Nat) (z : inR k) : inMF k := by omega
theorem inF_MF (k : Nat) (z : inF k) : inMF k := by have := z.1; have := z.2; omega
theorem inMF_M (k : Nat) (z : inMF k) : inM k := by omega
/-- the reference is back at the house it began with -/
theorem Re.mf {σ τ : St} {h : MH} (R : Re σ h) (F : Fr inMF σ τ) (M : Ms τ 50 h) : Re τ h :=
  ⟨R.1, R.2.1, R.2.2.1.fr F (fun j hj z => by omega), M, R.2.2.2.2.fr (F.mono (fun k z => by omega))⟩
def frF (h : MH) (k : Nat) : Nat := cnH (hbm h (bclr (hB h) k))
theorem frF_le {h : MH} (hw : Wf h) {k : Nat} (h3 : k < 3) : frF h k ≤ 4096 := cnH_le (wf_bm hw (bclr_lt _ hw.2.1 _ h3))
def frR (h : MH) : Int32 := (bsF (frF h) nI 3 (cnH h, -1)).2
theorem pp_frees {σ : St} (I : Inv σ) : Same (P_X6_frees σ) P_X7_frees := by
  obtain ⟨h, R, D⟩ := I
  obtain ⟨hw, hn, H, M, K⟩ := id R
  have hB8 := hw.2.1
  have bl : ∀ k, k ≤ 3 → (bsF (frF h) nI k (cnH h, -1)).1 ≤ 4096 := bsF_le (cnH_le hw) (fun k hk => frF_le hw hk)
  unfold Same P_X6_frees
  refine s_standsOf H hw (by omega) (fun τ F hV W => ?_)
  have H1 := H.fr (F.mono inW_sc) (fun j hj z => by omega)
  refine s_becomeLike H1 hw (Or.inr (by omega)) (fun ρ G Hρ => ⟨4, ?_⟩)
  have F2 : Fr inTr σ ρ := (F.mono inW_Tr).tr (G.mono inH_Tr)
  -- the reference, from any state that the class leaves
  have mod : ∀ (π : St) (X : Int32 → St → Prop), Re π h → (0 ≤ frR h → ∀ ω, Re ω h → Fr inMF π ω → X (frR h) ω) → (¬ 0 ≤ frR h → ∀ ω, Re ω h → Fr inMF π ω → P_X7_finds (-1000000004) ω X) → P_X7_frees π X := by
    intro π X Rπ q1 q2
    have Mπ := Rπ.2.2.2.1
    unfold P_X7_frees
    refine m_howMany Mπ hw (fun ω G1 Go1 => ⟨4, ?_⟩)
    have Mω := Mπ.fr G1 (by decide)
    rw [Mω.2.1]
    have head : ∀ n k (θ : St) (B : Nat), n = 3 - k → k ≤ 3 → Fr inMF π θ → B < 8 → Ms θ 50 (hbm h B) → Go θ h → P_X7_frees_l18 (nI (hB h)) (fun k2 t77 => ((0 ≤ k2) → X k2 (sI t77 50 92 (nI (hB h)))) ∧ ((¬ 0 ≤ k2) → P_X7_finds ((-1000000004)) (sI t77 50 92 (nI (hB h))) (fun r92 t92 => X r92 t92))) X (n + 1) (nI (bsF (frF h) nI k (cnH h, -1)).1) (bsF (frF h) nI k (cnH h, -1)).2 (nI k) θ := by
      intro n
      induction n with
      | zero =>
        intro k θ B hk hk2 Fθ hb8 Mθ Gθ
        have e : k = 3 := by omega
        subst e
        rw [P_X7_frees_l18]
        have Mb : Ms (sI θ 50 92 (nI (hB h))) 50 h := Ms_bm Mθ (wf_bm hw hb8) (hB h)
        have Fb : Fr inMF π (sI θ 50 92 (nI (hB h))) := Fθ.sI (by decide) _ _
        exact ⟨fun _ => ⟨fun z => q1 z _ (Rπ.mf Fb Mb) Fb, fun z => q2 z _ (Rπ.mf Fb Mb) Fb⟩, fun z => absurd (nI_le (a := 3) (b := 3) (by omega) (by omega)) z⟩
      | succ n ih =>
        intro k θ B hk hk2 Fθ hb8 Mθ Gθ
        have h3 : k < 3 := by omega
        rw [P_X7_frees_l18, bit_cl _ hB8 _ h3, nI_1]
        have hc8 := bclr_lt _ hB8 _ h3
        have Mb : Ms (sI θ 50 92 (nI (bclr (hB h) k))) 50 (hbm h (bclr (hB h) k)) := Ms_bm Mθ (wf_bm hw hb8) _
        refine ⟨fun z => absurd ((nI_leI (a := 3) (by omega) (by omega)).mp z) (by omega), fun _ => m_howManyNow Mb (Gθ.fr ((Fr.rf (S := isC 50)).sI rfl _ _) (by decide)) (wf_bm hw hc8) (fun ω2 G2 => ?_)⟩
        have key := fun (_ : Unit) => ih (k + 1) ω2 (bclr (hB h) k) (by omega) (by omega) ((Fθ.sI (by decide) _ _).tr (G2.mono inR_MF)) hc8 (Mb.fr G2 (by decide)) ((Gθ.fr ((Fr.rf (S := isC 50)).sI rfl _ _) (by decide)).fr G2 (by decide))
        have le := nI_leI (a := frF h k) (b := (bsF (frF h) nI k (cnH h, -1)).1) (by have := frF_le hw h3; omega) (by have := bl k (by omega); omega)
        rw [show cnt (hbm h (bclr (hB h) k)) okT (now (hbm h (bclr (hB h) k)) + 1) = frF h k from rfl, le]
        simp only [bsF] at key
        refine ⟨fun z => ⟨fun _ => ?_, fun y => absurd z y⟩, fun z => ⟨fun y => absurd y z, fun _ => ?_⟩⟩
        · have := key (); rw [if_pos z] at this; exact this
        · have := key (); rw [if_neg z] at this; exact this
    exact head 3 0 ω (hB h) (by omega) (by omega) (G1.mono inF_MF) hB8 Mω Go1
  have cls : ∀ n k (θ : St), n = 3 - k → k ≤ 3 → Fr inTr σ θ → Hs θ 13 h → P_X6_frees_l24 (fun k2 t79 => ((0 ≤ k2) → P_X7_frees t79 (fun r' τ' => k2 = r' ∧ Inv τ')) ∧ ((¬ 0 ≤ k2) → P_X6_finding ((-1000000004)) t79 (fun r86 t86 => P_X7_frees t86 (fun r' τ' => r86 = r' ∧ Inv τ')))) (fun r τ => P_X7_frees τ (fun r' τ' => r = r' ∧ Inv τ')) (n + 1) (nI (bsF (frF h) nI k (cnH h, -1)).1) (bsF (frF h) nI k (cnH h, -1)).2 (nI k) θ := by
    intro n
    induction n with
    | zero =>
      intro k θ hk hk2 Fθ Hθ
      have e : k = 3 := by omega
      subst e
      rw [P_X6_frees_l24]
      have Rθ : Re θ h := R.fr (Fθ.mono (fun k z => by omega))
      have Dθ : Fdd θ := D.fr Fθ (by decide) (by decide)
      refine ⟨fun _ => ⟨fun z => mod θ _ Rθ (fun _ ω Rω Fω => ⟨rfl, h, Rω, Dθ.fr Fω (by decide) (by decide)⟩) (fun y => absurd z y), fun z => ff (i := 3) (by omega) (by decide) Rθ Dθ (fun ω Fω Rω E => ?_)⟩, fun z => absurd (nI_le (a := 3) (b := 3) (by omega) (by omega)) z⟩
      exact mod ω _ Rω (fun y => absurd y z) (fun _ ω2 R2 F2 => fm (i := 3) (by omega) (by decide) R2 (E.fr F2 (by decide) (by decide)) (fun _ J => ⟨rfl, J⟩))
    | succ n ih =>
      intro k θ hk hk2 Fθ Hθ
      have h3 : k < 3 := by omega
      rw [P_X6_frees_l24, nI_1]
      have hc8 := bclr_lt _ hB8 _ h3
      refine ⟨fun z => absurd ((nI_leI (a := 3) (by omega) (by omega)).mp z) (by omega), fun _ => s_layBeam Hθ hw h3 false (fun ω Fω Hω => ?_)⟩
      rw [if_neg (by decide)] at Hω
      refine s_standsOf Hω (wf_bm hw hc8) (by omega) (fun θ2 F3 hV3 W3 => ?_)
      have F4 : Fr inTr σ θ2 := (Fθ.tr (Fω.mono inH_Tr)).tr (F3.mono inW_Tr)
      rw [show gI θ2 1 5 = nI (hB h) from (F4.i (by decide) _).trans H.2.1]
      have key := fun (_ : Unit) => ih (k + 1) (sI θ2 13 5 (nI (hB h))) (by omega) (by omega) (F4.sI (by decide) _ _) (Hs_bm (Hs13 Hω F3) (wf_bm hw hc8) (hB h))
      have le := nI_leI (a := frF h k) (b := (bsF (frF h) nI k (cnH h, -1)).1) (by have := frF_le hw h3; omega) (by have := bl k (by omega); omega)
      rw [show cnt (hbm h (bclr (hB h) k)) okT (now (hbm h (bclr (hB h) k)) + 1) = frF h k from rfl, le]
      simp only [bsF] at key
      refine ⟨fun z => ?_, fun z => ?_⟩
      · have := key (); rw [if_pos z] at this; exact this
      · have := key (); rw [if_neg z] at this; exact this
  exact cls 3 0 ρ (by omega) (by omega) F2 Hρ
