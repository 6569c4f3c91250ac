/-! MORE PAIRS OF CALLS -/
theorem pp_set {σ : St} (I : Inv σ) (p0 p1 p2 p3 : Int32) : Same (P_X6_set p0 p1 p2 p3 σ) (P_X7_set p0 p1 p2 p3) := by
  obtain ⟨h, R, D⟩ := I
  obtain ⟨hw, hn, H, M, K⟩ := id R
  unfold Same P_X6_set
  rcases stc h p0 p1 with ⟨w, i, h4, hi, rfl, rfl⟩ | no
  · have c7 := (hw.1 w h4).1
    have hp := pl_in hw h4 hi
    have hpl := pl28 hw h4 hi
    obtain ⟨f1, f2, f3⟩ := (H.1 w h4).2.2 i hi
    refine st_y H hw h4 hi (bT' (s_place ?_))
    rw [nI_clamp (by omega)]
    by_cases e1 : p2 = 1
    · subst e1
      refine ⟨fun z => absurd rfl z, fun _ => ?_⟩
      rcases rn p3 1 30 with ⟨v, v1, v3, rfl⟩ | nv
      · refine hg_y v1 v3 (bT ⟨hp, hp, ?_⟩)
        have F : Fr inE σ (sI σ 3 (w * 7 + i) (nI v)) := Fr.rf.sI (by decide) _ _
        have M2 := M.fr F (by decide)
        unfold P_X7_set
        refine ⟨fun z => absurd rfl z, fun _ => in_y (a := 1) (b := 30) v1 v3 (by omega) (stm_y M2 hw h4 hi (bT (bT' (m_its (j := 1) M2 hw h4 hi (by omega) (m_at (j := 1) ⟨in_I (by omega) (by omega), f2, ?_⟩)))))⟩
        rw [nI_clamp (by omega)]
        exact iv2 (h2 := hhi h w i v) R D (wf_hi hw v3) hn F (Hs_hi H hw h4 hi v) (Fr.rf.sI (by decide) _ _) (Ms_hi M2 hw h4 hi v)
      · refine hg_n nv (bF ⟨fun _ => bad0 R D (P2 := P_X7_set (nI w) (nI i) 1 p3) (fun τ Rτ X b => ?_), fun z => absurd z (by decide)⟩)
        unfold P_X7_set
        exact ⟨fun z => absurd rfl z, fun _ => in_n (a := 1) (b := 30) (by omega) (by omega) nv (stm_y Rτ.2.2.2.1 hw h4 hi (bT (bF' (b _ Rτ Fr.rf))))⟩
    · by_cases e2 : p2 = 2
      · subst e2
        refine ⟨fun _ => ⟨fun z => absurd rfl z, fun _ => ?_⟩, fun z => absurd z (by decide)⟩
        rcases rn p3 0 999 with ⟨v, v1, v3, rfl⟩ | nv
        · refine wi_y (a := 0) (b := 999) v1 v3 (by omega) (bT ⟨hp, hp, ?_⟩)
          have F : Fr inE σ (sI σ 4 (w * 7 + i) (nI v)) := Fr.rf.sI (by decide) _ _
          have M2 := M.fr F (by decide)
          unfold P_X7_set
          refine ⟨fun _ => ⟨fun z => absurd rfl z, fun _ => in_y (a := 0) (b := 999) v1 v3 (by omega) (bT (stm_y M2 hw h4 hi (bT (m_its (j := 2) M2 hw h4 hi (by omega) (m_at (j := 2) ⟨in_I (by omega) (by omega), f3, ?_⟩)))))⟩, fun z => absurd z (by decide)⟩
          rw [nI_clamp (by omega)]
          exact iv2 (h2 := hpr h w i v) R D (wf_pr hw v3) hn F (Hs_pr H hw h4 hi v) (Fr.rf.sI (by decide) _ _) (Ms_pr M2 hw h4 hi v)
        · refine wi_n (a := 0) (b := 999) (by omega) (by omega) nv (bF (bad0 R D (P2 := P_X7_set (nI w) (nI i) 2 p3) (fun τ Rτ X b => ?_)))
          unfold P_X7_set
          exact ⟨fun _ => ⟨fun z => absurd rfl z, fun _ => in_n (a := 0) (b := 999) (by omega) (by omega) nv (bF (stm_y Rτ.2.2.2.1 hw h4 hi (bT (b _ Rτ Fr.rf))))⟩, fun z => absurd z (by decide)⟩
      · refine ⟨fun _ => ⟨fun _ => bad0 R D (P2 := P_X7_set (nI w) (nI i) p2 p3) (fun τ Rτ X b => ?_), fun z => absurd z e2⟩, fun z => absurd z e1⟩
        unfold P_X7_set
        exact ⟨fun _ => ⟨fun _ => stm_y Rτ.2.2.2.1 hw h4 hi (bT (b _ Rτ Fr.rf)), fun z => absurd z e2⟩, fun z => absurd z e1⟩
  · refine st_n H hw no (bF' (bad0 R D (P2 := P_X7_set p0 p1 p2 p3) (fun τ Rτ X b => ?_)))
    unfold P_X7_set
    have go := b _ Rτ Fr.rf
    have Mτ := Rτ.2.2.2.1
    exact ⟨fun _ => ⟨fun _ => stm_n Mτ hw no (bF go), fun _ => m_in ⟨fun _ => stm_n Mτ hw no (bF go), fun _ => stm_n Mτ hw no (bF go)⟩⟩, fun _ => m_in (stm_n Mτ hw no (bF go))⟩
def und (k q : Nat) : Bool := decide (q = 0 ∨ q = k ∨ (q = 1 ∧ k = 4) ∨ (q = 2 ∧ k = 5))
theorem us {σ : St} {k q lv n : Nat} {K : St → Prop} {Q : Bool → Prop} (hk : k < 6) (hq : q < 6) (hl : lv < 6) {a : Int32} (ha : aboveL.getD k 0 = a) (y : k = q → Q true) (nx : k ≠ q → P_X6_isUnder_l4 (nI q) K Q n a (nI (lv + 1)) σ) : P_X6_isUnder_l4 (nI q) K Q (n + 1) (nI k) (nI lv) σ := by
  rw [P_X6_isUnder_l4, nI_clamp (by omega), ha, nI_1, nI_eq (by omega) (by omega)]
  exact ⟨fun z => absurd ((nI_leI (a := 6) (by omega) (by omega)).mp z) (by omega), fun _ => ⟨fun z => absurd z (nI_pos (by omega)), fun _ => ⟨fun z => ⟨in_I (by omega) (by omega), nx z⟩, y⟩⟩⟩
theorem ue {σ : St} {q lv n : Nat} {K : St → Prop} {Q : Bool → Prop} (kk : K σ) : P_X6_isUnder_l4 (nI q) K Q (n + 1) (-1) (nI lv) σ := by
  rw [P_X6_isUnder_l4]
  exact ⟨fun _ => kk, fun _ => ⟨fun _ => kk, fun z => absurd (by decide) z⟩⟩
theorem s_isUnder {σ : St} {k q : Nat} (hk : k < 6) (hq : q < 6) {Q : Bool → Prop} (hQ : Q (und k q)) : P_X6_isUnder (nI k) (nI q) σ Q := by
  unfold P_X6_isUnder
  refine ⟨4, ?_⟩
  have t : (q = 0 ∨ q = k ∨ (q = 1 ∧ k = 4) ∨ (q = 2 ∧ k = 5)) → Q true := fun z => by unfold und at hQ; rw [decide_eq_true z] at hQ; exact hQ
  have f : ¬ (q = 0 ∨ q = k ∨ (q = 1 ∧ k = 4) ∨ (q = 2 ∧ k = 5)) → Q false := fun z => by unfold und at hQ; rw [decide_eq_false z] at hQ; exact hQ
  show P_X6_isUnder_l4 (nI q) (fun _ => Q false) Q 4 (nI k) (nI 0) σ
  rcases (show k = 0 ∨ k = 1 ∨ k = 2 ∨ k = 3 ∨ k = 4 ∨ k = 5 by omega) with rfl | rfl | rfl | rfl | rfl | rfl
  · exact us hk hq (by omega) rfl (fun e => t (by omega)) (fun n1 => ue (f (by omega)))
  · exact us hk hq (by omega) rfl (fun e => t (by omega)) (fun n1 => us (k := 0) (by omega) hq (by omega) rfl (fun e => t (by omega)) (fun n2 => ue (f (by omega))))
  · exact us hk hq (by omega) rfl (fun e => t (by omega)) (fun n1 => us (k := 0) (by omega) hq (by omega) rfl (fun e => t (by omega)) (fun n2 => ue (f (by omega))))
  · exact us hk hq (by omega) rfl (fun e => t (by omega)) (fun n1 => us (k := 0) (by omega) hq (by omega) rfl (fun e => t (by omega)) (fun n2 => ue (f (by omega))))
  · exact us hk hq (by omega) rfl (fun e => t (by omega)) (fun n1 => us (k := 1) (by omega) hq (by omega) rfl (fun e => t (by omega)) (fun n2 => us (k := 0) (by omega) hq (by omega) rfl (fun e => t (by omega)) (fun n3 => ue (f (by omega)))))
  · exact us hk hq (by omega) rfl (fun e => t (by omega)) (fun n1 => us (k := 2) (by omega) hq (by omega) rfl (fun e => t (by omega)) (fun n2 => us (k := 0) (by omega) hq (by omega) rfl (fun e => t (by omega)) (fun n3 => ue (f (by omega)))))
theorem m_isUnder {σ : St} {k q : Nat} (hk : k < 6) (hq : q < 6) {Q : Bool → Prop} (hQ : Q (und k q)) : P_X7_isUnder (nI k) (nI q) σ Q := by
  have t : (q = 0 ∨ q = k ∨ (q = 1 ∧ k = 4) ∨ (q = 2 ∧ k = 5)) → Q true := fun z => by unfold und at hQ; rw [decide_eq_true z] at hQ; exact hQ
  have f : ¬ (q = 0 ∨ q = k ∨ (q = 1 ∧ k = 4) ∨ (q = 2 ∧ k = 5)) → Q false := fun z => by unfold und at hQ; rw [decide_eq_false z] at hQ; exact hQ
  have e0 : nI q = 0 ↔ q = 0 := nI_eq (b := 0) (by omega) (by omega)
  have e1 : nI q = 1 ↔ q = 1 := nI_eq (b := 1) (by omega) (by omega)
  have e2 : nI q = 2 ↔ q = 2 := nI_eq (b := 2) (by omega) (by omega)
  have ek : nI q = nI k ↔ q = k := nI_eq (by omega) (by omega)
  have e4 : nI k = 4 ↔ k = 4 := nI_eq (b := 4) (by omega) (by omega)
  have e5 : nI k = 5 ↔ k = 5 := nI_eq (b := 5) (by omega) (by omega)
  unfold P_X7_isUnder
  simp only [e0, e1, e2, ek, e4, e5]
  refine ⟨fun a => t (by omega), fun a => ⟨fun b => t (by omega), fun b => ⟨fun c => ⟨fun d => f (by omega), fun d => ⟨fun e => f (by omega), fun e => t (by omega)⟩⟩, fun c => ⟨fun d => t (by omega), fun d => ⟨fun e => f (by omega), fun e => ⟨fun g => f (by omega), fun g => t (by omega)⟩⟩⟩⟩⟩⟩
theorem pp_as {σ : St} (I : Inv σ) (p0 p1 p2 : Int32) : Same (P_X6_as p0 p1 p2 σ) (P_X7_as p0 p1 p2) := by
  have I0 := I
  obtain ⟨h, R, D⟩ := I
  obtain ⟨hw, hn, H, M, K⟩ := id R
  unfold Same P_X6_as
  rcases stc h p0 p1 with ⟨w, i, h4, hi, rfl, rfl⟩ | no
  · have c7 := (hw.1 w h4).1
    have hp := pl_in hw h4 hi
    have hpl := pl28 hw h4 hi
    have k6 := ((hw.1 w h4).2.2 i hi).1
    obtain ⟨f1, f2, f3⟩ := (H.1 w h4).2.2 i hi
    refine st_y H hw h4 hi (bT ?_)
    rcases rn p2 0 5 with ⟨q, _, q5, rfl⟩ | nk
    · refine ki_y q5 (bT' (s_place ⟨hp, ?_⟩))
      rw [nI_clamp (by omega), f1, f2]
      refine s_isUnder k6 (by omega) ?_
      cases hu : und (hK h w i) q
      · refine bF' (badc R D (i := 2) (by omega) (by decide) (P2 := P_X7_as (nI w) (nI i) (nI q)) (fun τ Rτ X b => ?_))
        unfold P_X7_as
        exact stm_y Rτ.2.2.2.1 hw h4 hi (bT (kim_y q5 (bT' (m_its (j := 0) Rτ.2.2.2.1 hw h4 hi (by omega) (m_isUnder k6 (by omega) (by rw [hu]; exact bF (b _ Rτ Fr.rf)))))))
      · refine bT' ⟨hp, ?_⟩
        unfold P_X7_as
        exact stm_y M hw h4 hi (bT (kim_y q5 (bT' (m_its (j := 0) M hw h4 hi (by omega) (m_isUnder k6 (by omega) (by rw [hu]; exact bT (m_its (j := 1) M hw h4 hi (by omega) ⟨rfl, I0⟩)))))))
    · refine ki_n nk (bF' (bad0 R D (P2 := P_X7_as (nI w) (nI i) p2) (fun τ Rτ X b => ?_)))
      unfold P_X7_as
      exact stm_y Rτ.2.2.2.1 hw h4 hi (bT (kim_n nk (bF' (b _ Rτ Fr.rf))))
  · refine st_n H hw no (bF (bad0 R D (P2 := P_X7_as p0 p1 p2) (fun τ Rτ X b => ?_)))
    unfold P_X7_as
    exact stm_n Rτ.2.2.2.1 hw no (bF (b _ Rτ Fr.rf))
theorem bm_eq : ∀ B, B < 8 → ∀ b, b < 3 → ∀ is : Bool, ((if is then bset B b else bclr B b) = B ↔ B.testBit b = is) := by decide +kernel
theorem bm_lt : ∀ B, B < 8 → ∀ b, b < 3 → ∀ is : Bool, (if is then bset B b else bclr B b) < 8 := by decide +kernel
theorem bI_eq : ∀ a b : Bool, (bI a = bI b ↔ a = b) := by decide
theorem pp_beam {σ : St} (I : Inv σ) (p0 : Int32) (p1 : Bool) : Same (P_X6_beam p0 p1 σ) (P_X7_beam p0 p1) := by
  obtain ⟨h, R, D⟩ := I
  obtain ⟨hw, hn, H, M, K⟩ := id R
  have hB8 := hw.2.1
  unfold Same P_X6_beam
  rcases rn p0 0 2 with ⟨b, _, b2, rfl⟩ | nb
  · have b3 : b < 3 := by omega
    refine wi_y (a := 0) (b := 2) (by omega) b2 (by omega) (bT' (s_layBeam H hw b3 p1 (fun τ F Hτ => ?_)))
    have lt := bm_lt _ hB8 _ b3 p1
    have F2 : Fr inE σ τ := F.mono (fun k z => by have := z.1; have := z.2; omega)
    have Mτ := M.fr F2 (by decide)
    rw [Hτ.2.1, H.2.1, show hB (hbm h (if p1 = true then bset (hB h) b else bclr (hB h) b)) = (if p1 = true then bset (hB h) b else bclr (hB h) b) from rfl, nI_eq (by omega) (by omega), bm_eq _ hB8 _ b3 p1]
    have fin : ∀ r : Int32, ((hB h).testBit b = p1 → r = 0) → (¬ (hB h).testBit b = p1 → r = 1) → P_X7_beam (nI b) p1 τ (fun r' τ' => r = r' ∧ Inv τ') := by
      intro r r0 r1
      unfold P_X7_beam
      refine in_y (a := 0) (b := 2) (by omega) b2 (by omega) (bT' (m_lies Mτ hw b3 ?_))
      rw [Mτ.2.1, bit_or _ hB8 _ b3, bit_cl _ hB8 _ b3, bI_eq]
      have key : ∀ X, X = (if p1 = true then bset (hB h) b else bclr (hB h) b) → Inv (sI τ 50 92 (nI X)) := fun X e => by
        subst e
        exact iv2 R D (wf_bm hw lt) hn F2 Hτ (Fr.rf.sI (by decide) _ _) (Ms_bm Mτ hw _)
      refine ⟨fun z => ?_, fun z => ?_⟩
      · subst z; exact ⟨fun y => ⟨r1 y, key _ rfl⟩, fun y => ⟨r0 y, key _ rfl⟩⟩
      · subst z; exact ⟨fun y => ⟨r1 y, key _ rfl⟩, fun y => ⟨r0 y, key _ rfl⟩⟩
    exact ⟨fun e => asN (fin _ (fun _ => rfl) (fun z => absurd e z)), fun e => asN (fin _ (fun z => absurd z e) (fun _ => rfl))⟩
  · refine wi_n (a := 0) (b := 2) (by omega) (by omega) nb (bF' (bad0 R D (P2 := P_X7_beam p0 p1) (fun τ Rτ X b => ?_)))
    unfold P_X7_beam
    exact in_n (a := 0) (b := 2) (by omega) (by omega) nb (bF' (b _ Rτ Fr.rf))
theorem pp_nights {σ : St} (I : Inv σ) (p0 : Int32) : Same (P_X6_nights p0 σ) (P_X7_nights p0) := by
  obtain ⟨h, R, D⟩ := I
  obtain ⟨hw, hn, H, M, K⟩ := id R
  unfold Same P_X6_nights
  rcases rn p0 1 99 with ⟨n, n1, n99, rfl⟩ | nn
  · refine wi_y (a := 1) (b := 99) n1 n99 (by omega) (bT' ?_)
    rw [H.2.2.2.1, nI_add]
    refine ⟨fun z => s_allTops H hw ?_, fun z => ?_⟩
    · have z2 : hN h + n ≤ 999 := (nI_leI (b := 999) (by omega) (by omega)).mp z
      have F : Fr inE σ (sI σ 1 7 (nI (hN h + n))) := Fr.rf.sI (by decide) _ _
      have H2 := Hs_ni H hw (hN h + n)
      have hw2 : Wf (hni h (hN h + n)) := wf_ni hw (by omega)
      refine s_allTops H2 hw2 ?_
      have M1 := M.fr F (by decide)
      unfold P_X7_nights
      dsimp only
      rw [M1.2.2.2.1, nI_add]
      refine in_y (a := 1) (b := 99) n1 n99 (by omega) (bT' ⟨fun _ => m_allTops M1 hw (fun τ G => ?_), fun y => absurd z y⟩)
      have M2 := M1.fr G (by decide)
      rw [M2.2.2.2.1, nI_add]
      have M3 := Ms_ni M2 hw (hN h + n)
      refine m_allTops M3 hw2 (fun ρ G2 => ⟨rfl, ?_⟩)
      have G3 : Fr inM (sI σ 1 7 (nI (hN h + n))) ρ := ((G.mono (fun k z => Or.inr (inT_sc k z))).sI (by decide) _ _).tr (G2.mono (fun k z => Or.inr (inT_sc k z)))
      exact iv2 (h2 := hni h (hN h + n)) R D hw2 z2 F H2 G3 (M3.fr G2 (by decide))
    · refine badc R D (i := 4) (by omega) (by decide) (P2 := P_X7_nights (nI n)) (fun τ Rτ X b => ?_)
      unfold P_X7_nights
      rw [Rτ.2.2.2.1.2.2.2.1, nI_add]
      exact in_y (a := 1) (b := 99) n1 n99 (by omega) (bT' ⟨fun y => absurd y z, fun _ => b _ Rτ Fr.rf⟩)
  · refine wi_n (a := 1) (b := 99) (by omega) (by omega) nn (bF' (bad0 R D (P2 := P_X7_nights p0) (fun τ Rτ X b => ?_)))
    unfold P_X7_nights
    exact in_n (a := 1) (b := 99) (by omega) (by omega) nn (bF' (b _ Rτ Fr.rf))
theorem pp_now {σ : St} (I : Inv σ) (p0 : Int32) : Same (P_X6_now p0 σ) (P_X7_now p0) := by
  have I0 := I
  obtain ⟨h, R, D⟩ := I
  obtain ⟨hw, hn, H, M, K⟩ := id R
  have hnl := now_lt hw
  have wl := wd_le hw (prB_now hw)
  have sl := hw.2.2.1
  unfold Same P_X6_now
  refine ⟨fun e => ?_, fun e => ?_, fun e => ?_, fun e => ?_, fun e => s_allStones H hw ?_, fun e => s_standNow H ?_, fun e => s_measure H hw (by omega) (fun τ F hV => ?_), fun e => s_measure H hw (by omega) (fun τ F hV => ?_), fun ne => bad0 R D (P2 := P_X7_now p0) (fun τ Rτ X b => ?_)⟩
  · subst e; unfold P_X7_now; exact ⟨fun _ => ⟨H.2.2.2.1.trans M.2.2.2.1.symm, I0⟩, fun z => absurd z (by decide), fun z => absurd z (by decide), fun z => absurd z (by decide), fun z => absurd z (by decide), fun z => absurd z (by decide), fun z => absurd z (by decide), fun z => absurd z (by decide), fun z => absurd rfl z.1⟩
  · subst e; unfold P_X7_now; exact ⟨fun z => absurd z (by decide), fun _ => ⟨H.2.2.1.trans M.2.2.1.symm, I0⟩, fun z => absurd z (by decide), fun z => absurd z (by decide), fun z => absurd z (by decide), fun z => absurd z (by decide), fun z => absurd z (by decide), fun z => absurd z (by decide), fun z => absurd rfl z.2.1⟩
  · subst e; unfold P_X7_now; exact ⟨fun z => absurd z (by decide), fun z => absurd z (by decide), fun _ => ⟨H.2.2.2.2.trans M.2.2.2.2.symm, I0⟩, fun z => absurd z (by decide), fun z => absurd z (by decide), fun z => absurd z (by decide), fun z => absurd z (by decide), fun z => absurd z (by decide), fun z => absurd rfl z.2.2.1⟩
  · subst e; unfold P_X7_now; exact ⟨fun z => absurd z (by decide), fun z => absurd z (by decide), fun z => absurd z (by decide), fun _ => ⟨H.2.1.trans M.2.1.symm, I0⟩, fun z => absurd z (by decide), fun z => absurd z (by decide), fun z => absurd z (by decide), fun z => absurd z (by decide), fun z => absurd rfl z.2.2.2.1⟩
  · subst e; unfold P_X7_now; exact ⟨fun z => absurd z (by decide), fun z => absurd z (by decide), fun z => absurd z (by decide), fun z => absurd z (by decide), fun _ => m_standNow M hw (m_stones hnl ⟨rfl, I0⟩), fun z => absurd z (by decide), fun z => absurd z (by decide), fun z => absurd z (by decide), fun z => absurd rfl z.2.2.2.2.1⟩
  · subst e; unfold P_X7_now; exact ⟨fun z => absurd z (by decide), fun z => absurd z (by decide), fun z => absurd z (by decide), fun z => absurd z (by decide), fun z => absurd z (by decide), fun _ => m_standNow M hw ⟨rfl, I0⟩, fun z => absurd z (by decide), fun z => absurd z (by decide), fun z => absurd rfl z.2.2.2.2.2.1⟩
  · subst e
    have I1 := I0.fr (F.mono inS_sc)
    rw [hV.1]
    refine s_unlikeAt hV hw (prB_now hw) ?_
    unfold P_X7_now
    exact ⟨fun z => absurd z (by decide), fun z => absurd z (by decide), fun z => absurd z (by decide), fun z => absurd z (by decide), fun z => absurd z (by decide), fun z => absurd z (by decide), fun _ => m_mostUnlike (M.fr (F.mono inS_sc) (by decide)) hw (fun ρ G => ⟨rfl, I1.fr (G.mono inT_sc)⟩), fun z => absurd z (by decide), fun z => absurd rfl z.2.2.2.2.2.2.1⟩
  · subst e
    have I1 := I0.fr (F.mono inS_sc)
    have M1 := M.fr (F.mono inS_sc) (by decide)
    have H1 := H.fr (F.mono inS_sc) (fun j hj z => by omega)
    rw [hV.1, H1.2.2.1]
    refine s_unlikeAt hV hw (prB_now hw) ⟨fun y => asN ?_, fun y => asN ?_⟩
    · unfold P_X7_now
      refine ⟨fun z => absurd z (by decide), fun z => absurd z (by decide), fun z => absurd z (by decide), fun z => absurd z (by decide), fun z => absurd z (by decide), fun z => absurd z (by decide), fun z => absurd z (by decide), fun _ => m_mostUnlike M1 hw (fun ρ G => ?_), fun z => absurd rfl z.2.2.2.2.2.2.2⟩
      rw [(M1.fr G (by decide)).2.2.1]
      exact ⟨fun _ => ⟨rfl, I1.fr (G.mono inT_sc)⟩, fun z => absurd y z⟩
    · unfold P_X7_now
      refine ⟨fun z => absurd z (by decide), fun z => absurd z (by decide), fun z => absurd z (by decide), fun z => absurd z (by decide), fun z => absurd z (by decide), fun z => absurd z (by decide), fun z => absurd z (by decide), fun _ => m_mostUnlike M1 hw (fun ρ G => ?_), fun z => absurd rfl z.2.2.2.2.2.2.2⟩
      rw [(M1.fr G (by decide)).2.2.1]
      exact ⟨fun z => absurd z y, fun _ => ⟨rfl, I1.fr (G.mono inT_sc)⟩⟩
  · unfold P_X7_now
    obtain ⟨a, b1, c, d, e, f, g, i⟩ := ne
    exact ⟨fun z => absurd z a, fun z => absurd z b1, fun z => absurd z c, fun z => absurd z d, fun z => absurd z e, fun z => absurd z f, fun z => absurd z g, fun z => absurd z i, fun _ => b _ Rτ Fr.rf⟩
theorem pp_pull {σ : St} (I : Inv σ) (p0 : Int32) : Same (P_X6_pull p0 σ) (P_X7_pull p0) := by
  obtain ⟨h, R, D⟩ := I
  obtain ⟨hw, hn, H, M, K⟩ := id R
  unfold Same P_X6_pull
  rcases rn p0 0 3 with ⟨w, _, w3, rfl⟩ | nw
  · have h4 : w < 4 := by omega
    refine wa_y w3 (bT' (s_measure H hw (by omega) (fun τ F hV => ?_)))
    rw [hV.1]
    have F1 : Fr sc σ τ := F.mono inS_sc
    have H1 := H.fr F1 (fun j hj z => by omega)
    have M1 := M.fr F1 (by decide)
    have R1 : Re τ h := R.fr (F1.mono (fun k z => by omega))
    have D1 := D.fr F1 (by decide) (by decide)
    refine s_canPullAt hV hw (prB_now hw) h4 ?_
    cases hc : gs h (now h) w && sf h (now h - 8 ^ w)
    · refine bF' (badc R1 D1 (i := 4) (by omega) (by decide) (P2 := P_X7_pull (nI w)) (fun ρ Rρ X b => ?_))
      unfold P_X7_pull
      refine wam_y w3 (bT' (m_canPullNow Rρ.2.2.2.1 hw h4 (fun π G => ?_)))
      rw [hc]
      exact bF' (b _ (Rρ.fr (G.mono (fun k z => by omega))) (G.mono inT_sc))
    · have hl : 0 < hC h w := by
        rw [Bool.and_eq_true] at hc
        have := gs_lf hc.1
        rwa [lf_now hw h4] at this
      refine bT' (s_tallOf (i := 0) H1 hw h4 hl (s_takeLowest H1 hw h4 hl (fun ρ G Hρ => ?_)))
      have G2 : Fr inE τ ρ := G.mono (fun k z => by have := z.1; have := z.2; omega)
      have Mρ := M1.fr G2 (by decide)
      unfold P_X7_pull
      refine wam_y w3 (bT' (m_canPullNow Mρ hw h4 (fun π G3 => ?_)))
      rw [hc]
      have Mπ := Mρ.fr G3 (by decide)
      refine bT' (m_tall (i := 0) Mπ hw h4 hl (m_takeOut Mπ hw h4 hl (fun ω G4 Mω => ⟨rfl, ?_⟩)))
      exact iv2 R1 D1 (wf_take hw hl) hn G2 Hρ ((G3.mono (fun k z => Or.inr (inT_sc k z))).tr (G4.mono (fun k z => Or.inl z))) Mω
  · refine wa_n nw (bF' (bad0 R D (P2 := P_X7_pull p0) (fun τ Rτ X b => ?_)))
    unfold P_X7_pull
    exact wam_n nw (bF' (b _ Rτ Fr.rf))
