/-! HELP -/
theorem hwe2 {h : MH} {w x v : Nat} : hwe (hwe h w x) w v = hwe h w v := by
  unfold hwe
  refine Prod.ext rfl (Prod.ext rfl (Prod.ext rfl (Prod.ext rfl (Prod.ext ?_ rfl))))
  funext u
  show (if u = w then v else (if u = w then x else hW h u)) = (if u = w then v else hW h u)
  split <;> rfl
theorem hwe0 {h : MH} {w : Nat} : hwe h w (hW h w) = h := by
  unfold hwe
  refine Prod.ext rfl (Prod.ext rfl (Prod.ext rfl (Prod.ext rfl (Prod.ext ?_ rfl))))
  funext u
  show (if u = w then hW h w else hW h u) = hW h u
  split
  · rename_i e; rw [e]
  · rfl
def heF (h : MH) (w k : Nat) : Nat := cnH (hwe h w (k + 1))
def heG (w k : Nat) : Int32 := (100 * nI w) + nI (k + 1)
def heS (h : MH) : Nat → Nat × Int32
  | 0 => (cnH h, -1)
  | w + 1 => bsF (heF h w) (heG w) 20 (heS h w)
theorem heF_le {h : MH} (hw : Wf h) {w k : Nat} (hk : k < 20) : heF h w k ≤ 4096 := cnH_le (wf_we hw (by omega))
theorem heS_le {h : MH} (hw : Wf h) (w : Nat) : (heS h w).1 ≤ 4096 := by
  induction w with
  | zero => exact cnH_le hw
  | succ w ih => exact bsF_le ih (fun k hk => heF_le hw hk) 20 (Nat.le_refl _)
theorem heB_le {h : MH} (hw : Wf h) {w k : Nat} (hk : k ≤ 20) : (bsF (heF h w) (heG w) k (heS h w)).1 ≤ 4096 := bsF_le (heS_le hw w) (fun k hk => heF_le hw hk) k hk
theorem s_help32 {σ : St} {h : MH} (hw : Wf h) {w : Nat} (h4 : w < 4) {K : Int32 → Int32 → St → Prop} {Q : Int32 → St → Prop}
    (kk : ∀ θ, Fr inTr σ θ → ∀ v, v ≤ 20 → Hs θ 13 (hwe h w v) → K (nI (heS h (w + 1)).1) (heS h (w + 1)).2 θ) :
    ∀ n k (θ : St) (v : Nat), n = 20 - k → k ≤ 20 → v ≤ 20 → Fr inTr σ θ → Hs θ 13 (hwe h w v) → P_X6_help_l32 (nI w) K Q (n + 1) (nI (bsF (heF h w) (heG w) k (heS h w)).1) (bsF (heF h w) (heG w) k (heS h w)).2 (nI (k + 1)) θ := by
  intro n
  induction n with
  | zero =>
    intro k θ v hk hk2 hv Fθ Hθ
    have e : k = 20 := by omega
    subst e
    rw [P_X6_help_l32]
    exact ⟨fun _ => kk θ Fθ v hv Hθ, fun y => absurd (nI_lt (a := 20) (b := 21) (by omega) (by omega)) y⟩
  | succ n ih =>
    intro k θ v hk hk2 hv Fθ Hθ
    rw [P_X6_help_l32, nI_1, nI_clamp (by omega)]
    have H2 : Hs (sI θ 18 w (nI (k + 1))) 13 (hwe (hwe h w v) w (k + 1)) := Hs_we Hθ (wf_we hw hv) h4 (k + 1)
    rw [hwe2] at H2
    refine ⟨fun y => absurd ((nI_ltI (a := 20) (by omega) (by omega)).mp y) (by omega), fun _ => ⟨in_I h4 (by omega), s_standsOf H2 (wf_we hw (by omega)) (by omega) (fun ω F3 _ _ => ?_)⟩⟩
    have key := ih (k + 1) ω (k + 1) (by omega) (by omega) (by omega) ((Fθ.sI (by decide) _ _).tr (F3.mono inW_Tr)) (Hs13 H2 F3)
    have le := nI_leI (a := heF h w k) (b := (bsF (heF h w) (heG w) k (heS h w)).1) (by have := heF_le (w := w) hw (show k < 20 by omega); omega) (by have := heB_le (w := w) hw (show k ≤ 20 by omega); omega)
    rw [show cnt (hwe h w (k + 1)) okT (now (hwe h w (k + 1)) + 1) = heF h w k from rfl, le]
    have eb : bsF (heF h w) (heG w) (k + 1) (heS h w) = if heF h w k ≤ (bsF (heF h w) (heG w) k (heS h w)).1 then bsF (heF h w) (heG w) k (heS h w) else (heF h w k, heG w k) := rfl
    rw [eb] at key
    refine ⟨fun y => ?_, fun y => ?_⟩
    · rw [if_pos y] at key; exact key
    · rw [if_neg y] at key; exact key
theorem m_help30 {σ : St} {h : MH} (hw : Wf h) {w : Nat} (h4 : w < 4) {l4 : Int32} {K : Int32 → Int32 → St → Prop} {Q : Int32 → St → Prop}
    (kk : ∀ θ, Fr inMF σ θ → ∀ v, v ≤ 20 → Ms θ 50 (hwe h w v) → Go θ h → K (nI (heS h (w + 1)).1) (heS h (w + 1)).2 θ) :
    ∀ n k (θ : St) (v : Nat), n = 20 - k → k ≤ 20 → v ≤ 20 → Fr inMF σ θ → Ms θ 50 (hwe h w v) → Go θ h → P_X7_help_l30 (nI w) l4 K Q (n + 1) (nI (bsF (heF h w) (heG w) k (heS h w)).1) (bsF (heF h w) (heG w) k (heS h w)).2 (nI (k + 1)) θ := by
  intro n
  induction n with
  | zero =>
    intro k θ v hk hk2 hv Fθ Mθ Gθ
    have e : k = 20 := by omega
    subst e
    rw [P_X7_help_l30]
    exact ⟨fun _ => kk θ Fθ v hv Mθ Gθ, fun y => absurd (nI_lt (a := 20) (b := 21) (by omega) (by omega)) y⟩
  | succ n ih =>
    intro k θ v hk hk2 hv Fθ Mθ Gθ
    rw [P_X7_help_l30, show ((23 : Int32) * nI w) + 1 = nI (23 * w + 1) from e23 (j := 1), nI_1, nI_clamp (by omega)]
    have M2 : Ms (sI θ 50 (23 * w + 1) (nI (k + 1))) 50 (hwe (hwe h w v) w (k + 1)) := Ms_we Mθ (wf_we hw hv) h4 (k + 1)
    rw [hwe2] at M2
    have G2 : Go (sI θ 50 (23 * w + 1) (nI (k + 1))) h := Gθ.fr ((Fr.rf (S := isC 50)).sI rfl _ _) (by decide)
    refine ⟨fun y => absurd ((nI_ltI (a := 20) (by omega) (by omega)).mp y) (by omega), fun _ => ⟨in_I (by omega) (by omega), m_howManyNow M2 G2 (wf_we hw (by omega)) (fun ω F3 => ?_)⟩⟩
    have key := ih (k + 1) ω (k + 1) (by omega) (by omega) (by omega) ((Fθ.sI (by decide) _ _).tr (F3.mono inR_MF)) (M2.fr F3 (by decide)) (G2.fr F3 (by decide))
    have le := nI_leI (a := heF h w k) (b := (bsF (heF h w) (heG w) k (heS h w)).1) (by have := heF_le (w := w) hw (show k < 20 by omega); omega) (by have := heB_le (w := w) hw (show k ≤ 20 by omega); omega)
    rw [show cnt (hwe h w (k + 1)) okT (now (hwe h w (k + 1)) + 1) = heF h w k from rfl, le]
    have eb : bsF (heF h w) (heG w) (k + 1) (heS h w) = if heF h w k ≤ (bsF (heF h w) (heG w) k (heS h w)).1 then bsF (heF h w) (heG w) k (heS h w) else (heF h w k, heG w k) := rfl
    rw [eb] at key
    refine ⟨fun y => ⟨fun _ => ?_, fun q => absurd y q⟩, fun y => ⟨fun q => absurd q y, fun _ => ?_⟩⟩
    · rw [if_pos y] at key; exact key
    · rw [if_neg y] at key; exact key
theorem pp_help {σ : St} (I : Inv σ) : Same (P_X6_help σ) P_X7_help := by
  obtain ⟨h, R, D⟩ := I
  obtain ⟨hw, hn, H, M, K⟩ := id R
  unfold Same P_X6_help
  refine s_standsOf H hw (by omega) (fun τ F hV W => ?_)
  have H1 := H.fr (F.mono inW_sc) (fun j hj z => by omega)
  refine s_becomeLike H1 hw (Or.inr (by omega)) (fun ρ G Hρ => ⟨5, ?_⟩)
  have F2 : Fr inTr σ ρ := (F.mono inW_Tr).tr (G.mono inH_Tr)
  have mod : ∀ (π : St) (X : Int32 → St → Prop), Re π h → (0 ≤ (heS h 4).2 → ∀ ω, Re ω h → Fr inMF π ω → X (heS h 4).2 ω) → (¬ 0 ≤ (heS h 4).2 → ∀ ω, Re ω h → Fr inMF π ω → P_X7_finds (-1000000004) ω X) → P_X7_help π X := by
    intro π X Rπ q1 q2
    have Mπ := Rπ.2.2.2.1
    unfold P_X7_help
    refine m_howMany Mπ hw (fun ω G1 Go1 => ⟨5, ?_⟩)
    have head : ∀ n w (θ : St), n = 4 - w → w ≤ 4 → Fr inMF π θ → Ms θ 50 h → Go θ h → P_X7_help_l9 (fun k2 t112 => ((0 ≤ k2) → X k2 t112) ∧ ((¬ 0 ≤ k2) → P_X7_finds ((-1000000004)) t112 (fun r119 t119 => X r119 t119))) X (n + 1) (nI (heS h w).1) (heS h w).2 (nI w) θ := by
      intro n
      induction n with
      | zero =>
        intro w θ hk hk2 Fθ Mθ Gθ
        have e : w = 4 := by omega
        subst e
        rw [P_X7_help_l9]
        exact ⟨fun _ => ⟨fun z => q1 z _ (Rπ.mf Fθ Mθ) Fθ, fun z => q2 z _ (Rπ.mf Fθ Mθ) Fθ⟩, fun z => absurd (nI_le (a := 4) (b := 4) (by omega) (by omega)) z⟩
      | succ n ih =>
        intro w θ hk hk2 Fθ Mθ Gθ
        have h4 : w < 4 := by omega
        have w20 := (hw.1 w h4).2.1
        rw [P_X7_help_l9, show ((23 : Int32) * nI w) + 1 = nI (23 * w + 1) from e23 (j := 1), nI_clamp (by omega), (Mθ.1 w h4).2.1, nI_1]
        refine ⟨fun z => absurd ((nI_leI (a := 4) (by omega) (by omega)).mp z) (by omega), fun _ => ⟨in_I (by omega) (by omega), 21, ?_⟩⟩
        refine m_help30 (σ := π) hw h4 (fun ω2 Fω v hv Mω Gω => ⟨in_I (by omega) (by omega), ?_⟩) 20 0 θ (hW h w) (by omega) (by omega) w20 Fθ (by rw [hwe0]; exact Mθ) Gθ
        have M2 : Ms (sI ω2 50 (23 * w + 1) (nI (hW h w))) 50 (hwe (hwe h w v) w (hW h w)) := Ms_we Mω (wf_we hw hv) h4 (hW h w)
        rw [hwe2, hwe0] at M2
        exact ih (w + 1) _ (by omega) (by omega) (Fω.sI (by decide) _ _) M2 (Gω.fr ((Fr.rf (S := isC 50)).sI rfl _ _) (by decide))
    exact head 4 0 ω (by omega) (by omega) (G1.mono inF_MF) (Mπ.fr G1 (by decide)) Go1
  have cls : ∀ n w (θ : St), n = 4 - w → w ≤ 4 → Fr inTr σ θ → Hs θ 13 h → P_X6_help_l24 (fun k2 t107 => ((0 ≤ k2) → P_X7_help t107 (fun r' τ' => k2 = r' ∧ Inv τ')) ∧ ((¬ 0 ≤ k2) → P_X6_finding ((-1000000004)) t107 (fun r114 t114 => P_X7_help t114 (fun r' τ' => r114 = r' ∧ Inv τ')))) (fun r τ => P_X7_help τ (fun r' τ' => r = r' ∧ Inv τ')) (n + 1) (nI (heS h w).1) (heS h w).2 (nI w) θ := by
    intro n
    induction n with
    | zero =>
      intro w θ hk hk2 Fθ Hθ
      have e : w = 4 := by omega
      subst e
      rw [P_X6_help_l24]
      have Rθ : Re θ h := R.fr (Fθ.mono (fun k z => by omega))
      have Dθ : Fdd θ := D.fr Fθ (by decide) (by decide)
      refine ⟨fun _ => ⟨fun z => mod θ _ Rθ (fun _ ω Rω Fω => ⟨rfl, h, Rω, Dθ.fr Fω (by decide) (by decide)⟩) (fun y => absurd z y), fun z => ff (i := 3) (by omega) (by decide) Rθ Dθ (fun ω Fω Rω E => ?_)⟩, fun z => absurd (nI_le (a := 4) (b := 4) (by omega) (by omega)) z⟩
      exact mod ω _ Rω (fun y => absurd y z) (fun _ ω2 R2 F2 => fm (i := 3) (by omega) (by decide) R2 (E.fr F2 (by decide) (by decide)) (fun _ J => ⟨rfl, J⟩))
    | succ n ih =>
      intro w θ hk hk2 Fθ Hθ
      have h4 : w < 4 := by omega
      have w20 := (hw.1 w h4).2.1
      rw [P_X6_help_l24, nI_1, nI_clamp (by omega)]
      refine ⟨fun z => absurd ((nI_leI (a := 4) (by omega) (by omega)).mp z) (by omega), fun _ => ⟨21, ?_⟩⟩
      refine s_help32 (σ := σ) hw h4 (fun ω2 Fω v hv Hω => ⟨in_I h4 (by omega), in_I h4 (by omega), ?_⟩) 20 0 θ (hW h w) (by omega) (by omega) w20 Fθ (by rw [hwe0]; exact Hθ)
      rw [show gI ω2 6 w = nI (hW h w) from (Fω.i (by decide) _).trans (H.1 w h4).2.1]
      have H2 : Hs (sI ω2 18 w (nI (hW h w))) 13 (hwe (hwe h w v) w (hW h w)) := Hs_we Hω (wf_we hw hv) h4 (hW h w)
      rw [hwe2, hwe0] at H2
      exact ih (w + 1) _ (by omega) (by omega) (Fω.sI (by decide) _ _) H2
  exact cls 4 0 ρ (by omega) (by omega) F2 Hρ
