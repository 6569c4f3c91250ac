/-! KIND AND TILL -/
theorem hkd2 {h : MH} {w i x v : Nat} : hkd (hkd h w i x) w i v = hkd h w i v := by
  unfold hkd
  refine Prod.ext rfl (Prod.ext ?_ rfl)
  funext u j
  show (if u = w ∧ j = i then v else (if u = w ∧ j = i then x else hK h u j)) = (if u = w ∧ j = i then v else hK h u j)
  split <;> rfl
theorem hkd0 {h : MH} {w i : Nat} : hkd h w i (hK h w i) = h := by
  unfold hkd
  refine Prod.ext rfl (Prod.ext ?_ rfl)
  funext u j
  show (if u = w ∧ j = i then hK h w i else hK h u j) = hK h u j
  split
  · rename_i e; rw [e.1, e.2]
  · rfl
theorem cnH_pos (h : MH) : 0 < cnH h := by
  unfold cnH
  simp only [cnt]
  rw [V_now, if_pos (by omega)]; omega
def kiF (h : MH) (w k : Nat) : Nat := cnH (hkd h w 0 k)
theorem pp_kind {σ : St} (I : Inv σ) (p0 : Int32) : Same (P_X6_kind p0 σ) (P_X7_kind p0) := by
  obtain ⟨h, R, D⟩ := I
  obtain ⟨hw, hn, H, M, K⟩ := id R
  unfold Same P_X6_kind
  rcases rn p0 0 3 with ⟨w, _, w3, rfl⟩ | nw
  · have h4 : w < 4 := by omega
    have c7 := (hw.1 w h4).1
    refine wa_y w3 (bT' ⟨in_I h4 (by omega), ?_⟩)
    rw [nI_clamp (by omega), (H.1 w h4).1]
    refine ⟨fun z => ?_, fun z => ?_⟩
    · have c0 : 0 < hC h w := by
        rcases Nat.eq_zero_or_pos (hC h w) with q | q
        · rw [q] at z; exact absurd rfl z
        · exact q
      have wk : ∀ k, k < 6 → Wf (hkd h w 0 k) := fun k hk => wf_kd hw hk
      have kl : ∀ k, k < 6 → kiF h w k ≤ 4096 := fun k hk => cnH_le (wk k hk)
      have bl : ∀ k, k ≤ 6 → (bsF (kiF h w) nI k (0, 0)).1 ≤ 4096 := bsF_le (by show 0 ≤ 4096; omega) kl
      have k06 : hK h w 0 < 6 := ((hw.1 w h4).2.2 0 c0).1
      refine s_becomeLike H hw (Or.inr (by omega)) (fun ρ G Hρ => ⟨7, ?_⟩)
      have mod : ∀ (π : St), Re π h → Fdd π → P_X7_kind (nI w) π (fun r' τ' => (bsF (kiF h w) nI 6 (0, 0)).2 = r' ∧ Inv τ') := by
        intro π Rπ Dπ
        have Mπ := Rπ.2.2.2.1
        have eat : 23 * w + 2 + 3 * 0 + 0 = 23 * w + 2 := by omega
        unfold P_X7_kind
        refine wam_y w3 (bT' (m_many Mπ h4 ⟨fun _ => m_its (i := 0) (j := 0) Mπ hw h4 c0 (by omega) ⟨7, ?_⟩, fun y => absurd y z⟩))
        rw [if_pos rfl]
        have stp : ∀ (k x : Nat) (θ : St) (Y : Int32 → St → Prop), k < 6 → x < 6 → Fr inMF π θ → Ms θ 50 (hkd h w 0 x) → (∀ ω, Fr inMF π ω → Ms ω 50 (hkd h w 0 k) → Y (nI (kiF h w k)) ω) → P_X7_at (nI w) 0 0 θ (fun r58 => vp_in r58 96 ∧ P_X7_howMany (sI θ 50 (r58.toNatClampNeg) (nI k)) Y) := by
          intro k x θ Y hk hx Fθ Mθ q
          refine m_at (i := 0) (j := 0) ⟨in_I (by omega) (by omega), ?_⟩
          rw [nI_clamp (by omega), eat]
          have M2 := Ms_kd (i := 0) Mθ (wk x hx) h4 (show 0 < hC h w from c0) k
          rw [hkd2, show 23 * w + 2 + 3 * 0 = 23 * w + 2 by omega] at M2
          exact m_howMany M2 (wk k hk) (fun ω F2 _ => q ω ((Fθ.sI (by decide) _ _).tr (F2.mono inF_MF)) (M2.fr F2 (by decide)))
        have head : ∀ n k (θ : St) (x : Nat), n = 6 - k → 1 ≤ k → k ≤ 6 → x < 6 → Fr inMF π θ → Ms θ 50 (hkd h w 0 x) → P_X7_kind_l45 (nI w) (nI (hK h w 0)) (fun k3 t106 => P_X7_at (nI w) 0 0 t106 (fun r113 => vp_in r113 96 ∧ ((bsF (kiF h w) nI 6 (0, 0)).2 = k3 ∧ Inv (sI t106 50 (r113.toNatClampNeg) (nI (hK h w 0)))))) (fun r' τ' => (bsF (kiF h w) nI 6 (0, 0)).2 = r' ∧ Inv τ') (n + 1) (bsF (kiF h w) nI k (0, 0)).2 (nI (bsF (kiF h w) nI k (0, 0)).1) (nI k) θ := by
          intro n
          induction n with
          | zero =>
            intro k θ x hk hk1 hk2 hx Fθ Mθ
            have e : k = 6 := by omega
            subst e
            rw [P_X7_kind_l45]
            refine ⟨fun _ => m_at (i := 0) (j := 0) ⟨in_I (by omega) (by omega), rfl, ?_⟩, fun y => absurd (nI_lt (a := 5) (b := 6) (by omega) (by omega)) y⟩
            rw [nI_clamp (by omega), eat]
            have M2 := Ms_kd (i := 0) Mθ (wk x hx) h4 (show 0 < hC h w from c0) (hK h w 0)
            rw [hkd2, hkd0, show 23 * w + 2 + 3 * 0 = 23 * w + 2 by omega] at M2
            have F3 : Fr inMF π (sI θ 50 (23 * w + 2) (nI (hK h w 0))) := Fθ.sI (by decide) _ _
            exact ⟨h, Rπ.mf F3 M2, Dπ.fr F3 (by decide) (by decide)⟩
          | succ n ih =>
            intro k θ x hk hk1 hk2 hx Fθ Mθ
            have h6 : k < 6 := by omega
            rw [P_X7_kind_l45, nI_1]
            refine ⟨fun y => absurd ((nI_ltI (a := 5) (by omega) (by omega)).mp y) (by omega), fun _ => stp k x θ _ h6 hx Fθ Mθ (fun ω Fω Mω => ?_)⟩
            have key := ih (k + 1) ω k (by omega) (by omega) (by omega) h6 Fω Mω
            have le := nI_leI (a := kiF h w k) (b := (bsF (kiF h w) nI k (0, 0)).1) (by have := kl k h6; omega) (by have := bl k (by omega); omega)
            rw [le]
            have eb : bsF (kiF h w) nI (k + 1) (0, 0) = if kiF h w k ≤ (bsF (kiF h w) nI k (0, 0)).1 then bsF (kiF h w) nI k (0, 0) else (kiF h w k, nI k) := rfl
            rw [eb] at key
            refine ⟨fun y => ⟨fun _ => ?_, fun q => absurd y q⟩, fun y => ⟨fun q => absurd q y, fun _ => ?_⟩⟩
            · rw [if_pos y] at key; exact key
            · rw [if_neg y] at key; exact key
        -- the first kind
        rw [P_X7_kind_l45]
        refine ⟨fun y => absurd y (by decide), fun _ => stp 0 (hK h w 0) π _ (by omega) k06 Fr.rf (by rw [hkd0]; exact Mπ) (fun ω Fω Mω => ?_)⟩
        have key := head 5 1 ω 0 (by omega) (by omega) (by omega) (by omega) Fω Mω
        have p0 : 0 < kiF h w 0 := cnH_pos _
        have eb : bsF (kiF h w) nI 1 (0, 0) = (kiF h w 0, nI 0) := by
          show (if kiF h w 0 ≤ 0 then _ else _) = _
          rw [if_neg (by omega)]
        rw [eb] at key
        have ng : ¬ nI (kiF h w 0) ≤ -1 := fun q => by
          have := Int32.le_trans (nI_pos' (n := kiF h w 0) (by have := kl 0 (by omega); omega)) q
          exact absurd this (by decide)
        exact ⟨fun y => absurd y ng, fun _ => ⟨fun y => absurd y ng, fun _ => key⟩⟩
      have cls : ∀ n k (θ : St) (x : Nat), n = 6 - k → k ≤ 6 → x < 6 → Fr inTr σ θ → Hs θ 13 (hkd h w 0 x) → P_X6_kind_l51 (nI w) (fun k3 t101 => P_X7_kind (nI w) t101 (fun r' τ' => k3 = r' ∧ Inv τ')) (fun r τ => P_X7_kind (nI w) τ (fun r' τ' => r = r' ∧ Inv τ')) (n + 1) (nI (bsF (kiF h w) nI k (0, 0)).1) (bsF (kiF h w) nI k (0, 0)).2 (nI k) θ := by
        intro n
        induction n with
        | zero =>
          intro k θ x hk hk2 hx Fθ Hθ
          have e : k = 6 := by omega
          subst e
          rw [P_X6_kind_l51]
          exact ⟨fun _ => mod θ (R.fr (Fθ.mono (fun k z => by omega))) (D.fr Fθ (by decide) (by decide)), fun y => absurd (nI_le (a := 6) (b := 6) (by omega) (by omega)) y⟩
        | succ n ih =>
          intro k θ x hk hk2 hx Fθ Hθ
          have h6 : k < 6 := by omega
          rw [P_X6_kind_l51, nI_1]
          refine ⟨fun y => absurd ((nI_leI (a := 6) (by omega) (by omega)).mp y) (by omega), fun _ => s_place (i := 0) ⟨in_I (by omega) (by omega), ?_⟩⟩
          rw [nI_clamp (by omega)]
          have H2 := Hs_kd (i := 0) Hθ (wk x hx) h4 (show 0 < hC h w from c0) k
          rw [hkd2] at H2
          refine s_standsOf H2 (wk k h6) (by omega) (fun ω F3 _ _ => ?_)
          have key := ih (k + 1) ω k (by omega) (by omega) h6 ((Fθ.sI (by decide) _ _).tr (F3.mono inW_Tr)) (Hs13 H2 F3)
          have le := nI_leI (a := kiF h w k) (b := (bsF (kiF h w) nI k (0, 0)).1) (by have := kl k h6; omega) (by have := bl k (by omega); omega)
          rw [show cnt (hkd h w 0 k) okT (now (hkd h w 0 k) + 1) = kiF h w k from rfl, le]
          have eb : bsF (kiF h w) nI (k + 1) (0, 0) = if kiF h w k ≤ (bsF (kiF h w) nI k (0, 0)).1 then bsF (kiF h w) nI k (0, 0) else (kiF h w k, nI k) := rfl
          rw [eb] at key
          refine ⟨fun y => ?_, fun y => ?_⟩
          · rw [if_pos y] at key; exact key
          · rw [if_neg y] at key; exact key
      exact cls 6 0 ρ (hK h w 0) (by omega) (by omega) k06 (G.mono inH_Tr) (by rw [hkd0]; exact Hρ)
    · refine badc R D (i := 4) (by omega) (by decide) (P2 := P_X7_kind (nI w)) (fun τ Rτ X b => ?_)
      unfold P_X7_kind
      exact wam_y w3 (bT' (m_many Rτ.2.2.2.1 h4 ⟨fun y => absurd z y, fun _ => b _ Rτ Fr.rf⟩))
  · refine wa_n nw (bF' (bad0 R D (P2 := P_X7_kind p0) (fun τ Rτ X b => ?_)))
    unfold P_X7_kind
    exact wam_n nw (bF' (b _ Rτ Fr.rf))
/-- can all go, so many nights on -/
def tlB (h : MH) (a : Nat) : Bool := decide (0 < V (hni h (hN h + a)) okT 0)
def tlL (h : MH) : Nat → Int32
  | 0 => -1
  | k + 1 => if tlB h k = true then nI (hN h + k) else tlL h k
theorem pp_till {σ : St} (I : Inv σ) : Same (P_X6_till σ) P_X7_till := by
  obtain ⟨h, R, D⟩ := I
  obtain ⟨hw, hn, H, M, K⟩ := id R
  have wn : ∀ k, k ≤ 60 → Wf (hni h (hN h + k)) := fun k hk => wf_ni hw (by omega)
  unfold Same P_X6_till
  refine s_becomeLike H hw (Or.inr (by omega)) (fun ρ G Hρ => ⟨62, ?_⟩)
  have mod : ∀ (π : St) (X : Int32 → St → Prop), Re π h → (0 ≤ tlL h 61 → ∀ ω, Re ω h → Fr inMF π ω → X (tlL h 61) ω) → (¬ 0 ≤ tlL h 61 → ∀ ω, Re ω h → Fr inMF π ω → P_X7_finds (-1000000004) ω X) → P_X7_till π X := by
    intro π X Rπ q1 q2
    have Mπ := Rπ.2.2.2.1
    unfold P_X7_till
    rw [Mπ.2.2.2.1]
    refine m_findGoes Mπ hw (fun ω G1 Go1 => ⟨62, ?_⟩)
    have head : ∀ n k (θ : St) (v : Nat), n = 61 - k → k ≤ 61 → v ≤ 2000 → Fr inMF π θ → Ms θ 50 (hni h v) → Go θ h → P_X7_till_l16 (nI (hN h)) (fun k2 t61 => ((0 ≤ k2) → X k2 (sI t61 50 94 (nI (hN h)))) ∧ ((¬ 0 ≤ k2) → P_X7_finds ((-1000000004)) (sI t61 50 94 (nI (hN h))) (fun r76 t76 => X r76 t76))) X (n + 1) (tlL h k) (nI k) θ := by
      intro n
      induction n with
      | zero =>
        intro k θ v hk hk2 hv Fθ Mθ Gθ
        have e : k = 61 := by omega
        subst e
        rw [P_X7_till_l16]
        have Mb : Ms (sI θ 50 94 (nI (hN h))) 50 h := Ms_ni Mθ (wf_ni hw hv) (hN h)
        have Fb : Fr inMF π (sI θ 50 94 (nI (hN h))) := Fθ.sI (by decide) _ _
        exact ⟨fun _ => ⟨fun z => q1 z _ (Rπ.mf Fb Mb) Fb, fun z => q2 z _ (Rπ.mf Fb Mb) Fb⟩, fun z => absurd (nI_lt (a := 60) (b := 61) (by omega) (by omega)) z⟩
      | succ n ih =>
        intro k θ v hk hk2 hv Fθ Mθ Gθ
        have h6 : k ≤ 60 := by omega
        rw [P_X7_till_l16, nI_add, nI_1]
        have Mb : Ms (sI θ 50 94 (nI (hN h + k))) 50 (hni h (hN h + k)) := Ms_ni Mθ (wf_ni hw hv) _
        refine ⟨fun z => absurd ((nI_ltI (a := 60) (by omega) (by omega)).mp z) (by omega), fun _ => m_countRows Mb (Gθ.fr ((Fr.rf (S := isC 50)).sI rfl _ _) (by decide)) (wn k h6) (fun ω2 G2 O A => ?_)⟩
        have key := ih (k + 1) ω2 (hN h + k) (by omega) (by omega) (by omega) ((Fθ.sI (by decide) _ _).tr (G2.mono inR_MF)) (Mb.fr G2 (by decide)) ((Gθ.fr ((Fr.rf (S := isC 50)).sI rfl _ _) (by decide)).fr G2 (by decide))
        rw [A 0 (Nat.zero_le _), lgc_pos (V_lt (wn k h6) 0)]
        rw [show tlL h (k + 1) = if tlB h k = true then nI (hN h + k) else tlL h k from rfl] at key
        refine ⟨fun z => ?_, fun z => ?_⟩
        · rw [if_neg (by unfold tlB; rw [decide_eq_true_eq]; omega)] at key; exact key
        · rw [if_pos (by unfold tlB; rw [decide_eq_true_eq]; omega)] at key; exact key
    exact head 61 0 ω (hN h) (by omega) (by omega) (by omega) (G1.mono (fun k (z : k = 55) => by omega)) (Mπ.fr G1 (by decide)) Go1
  have cls : ∀ k (θ : St) (v : Nat), k ≤ 61 → v ≤ 2000 → tlL h 61 = tlL h k → Fr inTr σ θ → Hs θ 13 (hni h v) → P_X6_till_l14 (fun t60 => P_X6_finding ((-1000000004)) t60 (fun r63 t63 => P_X7_till t63 (fun r' τ' => r63 = r' ∧ Inv τ'))) (fun r τ => P_X7_till τ (fun r' τ' => r = r' ∧ Inv τ')) (k + 1) (nI k - 1) θ := by
    intro k
    induction k with
    | zero =>
      intro θ v hk hv e Fθ Hθ
      rw [P_X6_till_l14]
      have Rθ : Re θ h := R.fr (Fθ.mono (fun k z => by omega))
      have Dθ : Fdd θ := D.fr Fθ (by decide) (by decide)
      have ng : ¬ 0 ≤ tlL h 61 := by rw [e]; show ¬ (0 : Int32) ≤ -1; decide
      refine ⟨fun _ => ff (i := 3) (by omega) (by decide) Rθ Dθ (fun ω Fω Rω E => ?_), fun z => absurd (by decide) z⟩
      exact mod ω _ Rω (fun y => absurd y ng) (fun _ ω2 R2 F2 => fm (i := 3) (by omega) (by decide) R2 (E.fr F2 (by decide) (by decide)) (fun _ J => ⟨rfl, J⟩))
    | succ k ih =>
      intro θ v hk hv e Fθ Hθ
      have h6 : k ≤ 60 := by omega
      rw [P_X6_till_l14, nI_pred, show nI k + (-1) = nI k - 1 from (Int32.sub_eq_add_neg _ _).symm, show gI θ 1 7 = nI (hN h) from (Fθ.i (by decide) _).trans H.2.2.2.1, nI_add]
      have H2 : Hs (sI θ 13 7 (nI (hN h + k))) 13 (hni h (hN h + k)) := Hs_ni Hθ (wf_ni hw hv) _
      refine ⟨fun z => absurd z (nI_pos (by omega)), fun _ => s_canBe (s := 0) H2 (wn k h6) (by omega) (Nat.zero_le _) (fun ω F3 => ?_)⟩
      have F4 : Fr inTr σ ω := (Fθ.sI (by decide) _ _).tr (F3.mono inW_Tr)
      have Hω := Hs13 H2 F3
      refine ⟨fun z => ?_, fun z => ?_⟩
      · refine ih ω (hN h + k) (by omega) (by omega) ?_ F4 Hω
        rw [e, show tlL h (k + 1) = if tlB h k = true then nI (hN h + k) else tlL h k from rfl, if_neg (by unfold tlB; rw [z]; decide)]
      · have e2 : tlL h 61 = nI (hN h + k) := by
          rw [e, show tlL h (k + 1) = if tlB h k = true then nI (hN h + k) else tlL h k from rfl, if_pos (by unfold tlB; exact z)]
        rw [show gI ω 13 7 = nI (hN h + k) from Hω.2.2.2.1, ← e2]
        have Rω : Re ω h := R.fr (F4.mono (fun k z => by omega))
        have Dω : Fdd ω := D.fr F4 (by decide) (by decide)
        exact mod ω _ Rω (fun _ θ2 R2 F5 => ⟨rfl, h, R2, Dω.fr F5 (by decide) (by decide)⟩) (fun y => absurd (by rw [e2]; exact nI_pos' (by omega)) y)
  have := cls 61 ρ (hN h) (by omega) (by omega) rfl (G.mono inH_Tr) Hρ
  rw [show nI 61 - 1 = (60 : Int32) from rfl] at this
  exact this
