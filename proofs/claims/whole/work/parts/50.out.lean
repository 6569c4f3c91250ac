/-! OUT, FEED -/
/-- a row that leaves fewer stones in a wall has passed each number on its way -/
theorem V_up {h : MH} {ok : Nat → Nat → Bool} {s : Nat} (z : 0 < V h ok s) (ne : s ≠ now h) : ∃ v, v < 4 ∧ ed h ok (s + 8 ^ v) v = true ∧ 0 < V h ok (s + 8 ^ v) := by
  rw [V_eq, if_neg ne] at z
  by_cases e : sf h s = true
  · rw [if_pos e] at z
    obtain ⟨v, h4, y⟩ := s4_pos.mp z
    by_cases e2 : ed h ok (s + 8 ^ v) v = true
    · rw [if_pos e2] at y; exact ⟨v, h4, e2, y⟩
    · rw [if_neg e2] at y; omega
  · rw [if_neg e] at z; omega
theorem V_pass {h : MH} {ok : Nat → Nat → Bool} (hw : Wf h) {w L : Nat} (h4 : w < 4) (hL : L < hC h w) : ∀ n s, n = now h - s → 0 < V h ok s → lf s w ≤ L → ∃ t, 0 < V h ok t ∧ lf t w = L ∧ stn s ≤ stn t := by
  intro n
  induction n using Nat.strongRecOn with
  | ind n ih =>
    intro s hn z hl
    by_cases e : lf s w = L
    · exact ⟨s, z, e, Nat.le_refl _⟩
    · have ne : s ≠ now h := fun q => by rw [q, lf_now hw h4] at hl; omega
      obtain ⟨v, hv, e2, z2⟩ := V_up z ne
      have hle := ed_le e2
      have hp8 := p8_pos v
      have hlf := (lf_sub (prB_iff.mp (ed_pr e2)).1 hv (ed_lf e2) h4).2
      rw [Nat.add_sub_cancel] at hlf
      have hst := ed_stn hv e2
      obtain ⟨t, t1, t2, t3⟩ := ih (now h - (s + 8 ^ v)) (by omega) (s + 8 ^ v) rfl z2 (by
        by_cases q : w = v
        · rw [if_pos q] at hlf; have := ed_lf e2; rw [← q] at this; rw [← q]; rw [← q] at hlf; omega
        · rw [if_neg q] at hlf; omega)
      exact ⟨t, t1, t2, by omega⟩
def ouC (h : MH) (w L : Nat) : Nat → Nat
  | 0 => 29
  | k + 1 => if 0 < V h okT k ∧ lf k w = L then min (ouC h w L k) (stn (now h) - stn k) else ouC h w L k
def ouM (h : MH) (w L : Nat) : Nat → Nat
  | 0 => 29
  | k + 1 => if 0 < V h okT k ∧ lf k w ≤ L then min (ouM h w L k) (stn (now h) - stn k) else ouM h w L k
theorem ouC_iff {h : MH} {w L d : Nat} : ∀ n, ouC h w L n ≤ d ↔ 29 ≤ d ∨ ∃ s, s < n ∧ 0 < V h okT s ∧ lf s w = L ∧ stn (now h) - stn s ≤ d := by
  intro n
  induction n with
  | zero => exact ⟨fun z => Or.inl z, fun z => by rcases z with z | ⟨s, hs, _⟩; exact z; omega⟩
  | succ n ih =>
    simp only [ouC]
    constructor
    · intro z
      by_cases c : 0 < V h okT n ∧ lf n w = L
      · rw [if_pos c] at z
        by_cases c2 : ouC h w L n ≤ d
        · rcases ih.mp c2 with q | ⟨s, h1, h2⟩
          · exact Or.inl q
          · exact Or.inr ⟨s, by omega, h2⟩
        · exact Or.inr ⟨n, by omega, c.1, c.2, by omega⟩
      · rw [if_neg c] at z
        rcases ih.mp z with q | ⟨s, h1, h2⟩
        · exact Or.inl q
        · exact Or.inr ⟨s, by omega, h2⟩
    · intro z
      have key : ouC h w L n ≤ d ∨ ((0 < V h okT n ∧ lf n w = L) ∧ stn (now h) - stn n ≤ d) := by
        rcases z with q | ⟨s, h1, h2, h3, h5⟩
        · exact Or.inl (ih.mpr (Or.inl q))
        · by_cases e : s = n
          · subst e; exact Or.inr ⟨⟨h2, h3⟩, h5⟩
          · exact Or.inl (ih.mpr (Or.inr ⟨s, by omega, h2, h3, h5⟩))
      split
      · rcases key with q | q <;> omega
      · rename_i c
        rcases key with q | q
        · exact q
        · exact absurd q.1 c
theorem ouM_iff {h : MH} {w L d : Nat} : ∀ n, ouM h w L n ≤ d ↔ 29 ≤ d ∨ ∃ s, s < n ∧ 0 < V h okT s ∧ lf s w ≤ L ∧ stn (now h) - stn s ≤ d := by
  intro n
  induction n with
  | zero => exact ⟨fun z => Or.inl z, fun z => by rcases z with z | ⟨s, hs, _⟩; exact z; omega⟩
  | succ n ih =>
    simp only [ouM]
    constructor
    · intro z
      by_cases c : 0 < V h okT n ∧ lf n w ≤ L
      · rw [if_pos c] at z
        by_cases c2 : ouM h w L n ≤ d
        · rcases ih.mp c2 with q | ⟨s, h1, h2⟩
          · exact Or.inl q
          · exact Or.inr ⟨s, by omega, h2⟩
        · exact Or.inr ⟨n, by omega, c.1, c.2, by omega⟩
      · rw [if_neg c] at z
        rcases ih.mp z with q | ⟨s, h1, h2⟩
        · exact Or.inl q
        · exact Or.inr ⟨s, by omega, h2⟩
    · intro z
      have key : ouM h w L n ≤ d ∨ ((0 < V h okT n ∧ lf n w ≤ L) ∧ stn (now h) - stn n ≤ d) := by
        rcases z with q | ⟨s, h1, h2, h3, h5⟩
        · exact Or.inl (ih.mpr (Or.inl q))
        · by_cases e : s = n
          · subst e; exact Or.inr ⟨⟨h2, h3⟩, h5⟩
          · exact Or.inl (ih.mpr (Or.inr ⟨s, by omega, h2, h3, h5⟩))
      split
      · rcases key with q | q <;> omega
      · rename_i c
        rcases key with q | q
        · exact q
        · exact absurd q.1 c
theorem ou_eq {h : MH} (hw : Wf h) {w L : Nat} (h4 : w < 4) (hL : L < hC h w) : ouC h w L (now h + 1) = ouM h w L (now h + 1) := by
  have key : ∀ d, ouC h w L (now h + 1) ≤ d ↔ ouM h w L (now h + 1) ≤ d := by
    intro d
    rw [ouC_iff, ouM_iff]
    constructor
    · rintro (q | ⟨s, h1, h2, h3, h5⟩)
      · exact Or.inl q
      · exact Or.inr ⟨s, h1, h2, by omega, h5⟩
    · rintro (q | ⟨s, h1, h2, h3, h5⟩)
      · exact Or.inl q
      · obtain ⟨t, t1, t2, t3⟩ := V_pass hw h4 hL _ s rfl h2 h3
        exact Or.inr ⟨t, by have := prB_le (V_pr (ok := okT) hw t1); omega, t1, t2, by omega⟩
  have a := (key _).mp (Nat.le_refl _)
  have b := (key _).mpr (Nat.le_refl _)
  omega
theorem ouC_le (h : MH) (w L k : Nat) : ouC h w L k ≤ 29 := (ouC_iff k).mpr (Or.inl (Nat.le_refl _))
theorem ouM_le (h : MH) (w L k : Nat) : ouM h w L k ≤ 29 := (ouM_iff k).mpr (Or.inl (Nat.le_refl _))
/-- as the class has it: -1 for none -/
def ouI (x : Nat) : Int32 := if x = 29 then -1 else nI x
theorem pp_out {σ : St} (I : Inv σ) (p0 p1 : Int32) : Same (P_X6_out p0 p1 σ) (P_X7_out p0 p1) := by
  obtain ⟨h, R, D⟩ := I
  obtain ⟨hw, hn, H, M, K⟩ := id R
  have hnl := now_lt hw
  unfold Same P_X6_out
  rcases stc h p0 p1 with ⟨w, i, h4, hi, rfl, rfl⟩ | no
  · have c7 := (hw.1 w h4).1
    have s28 := stn_le (now h)
    refine st_y H hw h4 hi (bT' (s_standsOf H hw (by omega) (fun τ F hV W => ⟨in_I h4 (by omega), ?_⟩)))
    have F1 := F.mono inW_sc
    have H1 := H.fr F1 (fun j hj z => by omega)
    have Rτ : Re τ h := R.fr (F1.mono (fun k z => by omega))
    have Dτ := D.fr F1 (by decide) (by decide)
    rw [nI_clamp (by omega), show gI τ 5 w = nI (hC h w) from (H1.1 w h4).1, show nI (hC h w) - 1 - nI i = nI (hC h w - 1 - i) from by rw [show nI (hC h w) - 1 = nI (hC h w - 1) from pk_sub (b := 1) (by omega), pk_sub (by omega)]]
    have mod : ∀ (π : St) (X : Int32 → St → Prop), Re π h → (ouM h w (hC h w - 1 - i) (now h + 1) ≤ 28 → ∀ ω, Re ω h → Fr sc π ω → X (nI (ouM h w (hC h w - 1 - i) (now h + 1))) ω) → (¬ ouM h w (hC h w - 1 - i) (now h + 1) ≤ 28 → ∀ ω, Re ω h → Fr sc π ω → P_X7_finds (-1000000004) ω X) → P_X7_out (nI w) (nI i) π X := by
      intro π X Rπ q1 q2
      have Mπ := Rπ.2.2.2.1
      unfold P_X7_out
      refine stm_y Mπ hw h4 hi (bT' (m_findRows Mπ hw (fun ω G O Gg A => m_standNow (Mπ.fr G (by decide)) hw ⟨now h + 2, ?_⟩)))
      have Mω := Mπ.fr G (by decide)
      have Rω : Re ω h := Rπ.fr ((G.mono inF_sc).mono (fun k z => by omega))
      have head : ∀ n k, n = now h + 1 - k → k ≤ now h + 1 → P_X7_out_l32 (nI w) (nI i) (nI (now h)) (fun k4 t100 => ((k4 ≤ 28) → X k4 t100) ∧ ((¬ k4 ≤ 28) → P_X7_finds ((-1000000004)) t100 (fun r110 t110 => X r110 t110))) X (n + 1) (nI (ouM h w (hC h w - 1 - i) k)) (nI k) ω := by
        intro n
        induction n with
        | zero =>
          intro k hk hk2
          have e : k = now h + 1 := by omega
          subst e
          rw [P_X7_out_l32]
          have o29 := ouM_le h w (hC h w - 1 - i) (now h + 1)
          have le := nI_leI (a := ouM h w (hC h w - 1 - i) (now h + 1)) (b := 28) (by omega) (by omega)
          exact ⟨fun _ => ⟨fun z => q1 (le.mp z) ω Rω (G.mono inF_sc), fun z => q2 (fun y => z (le.mpr y)) ω Rω (G.mono inF_sc)⟩, fun z => absurd (nI_lt (by omega) (by omega)) z⟩
        | succ n ih =>
          intro k hk hk2
          have key := ih (k + 1) (by omega) (by omega)
          rw [P_X7_out_l32, nI_clamp (by omega), A k (by omega), lgc_pos (V_lt hw k), nI_1]
          have sk := stn_le k
          have l8 := lf_lt k w
          have o29 := ouM_le h w (hC h w - 1 - i) k
          refine ⟨fun z => absurd ((nI_ltI (by omega) (by omega)).mp z) (by omega), fun _ => m_stones hnl (m_stones (by omega) ⟨in_I (by omega) (by omega), fun z => ?_, fun z => m_left (by omega) h4 (m_many Mω h4 ?_)⟩)⟩
          · rw [show ouM h w (hC h w - 1 - i) (k + 1) = ouM h w (hC h w - 1 - i) k by simp only [ouM]; rw [if_neg (by omega)]] at key; exact key
          · have hp : prB h k = true := V_pr (ok := okT) hw (by omega)
            have slt := stn_lt hw hp
            rw [pk_sub (show i ≤ hC h w by omega), pk_sub slt]
            refine ⟨fun y => ?_, fun y => ⟨fun q => ?_, fun q => ?_⟩⟩
            · have := (nI_leI (by omega) (by omega)).mp y
              rw [show ouM h w (hC h w - 1 - i) (k + 1) = ouM h w (hC h w - 1 - i) k by simp only [ouM]; rw [if_neg (by omega)]] at key; exact key
            · have y2 := mt (nI_leI (a := hC h w - i) (b := lf k w) (by omega) (by omega)).mpr y
              have := (nI_leI (by omega) (by omega)).mp q
              rw [show ouM h w (hC h w - 1 - i) (k + 1) = ouM h w (hC h w - 1 - i) k by simp only [ouM]; rw [if_pos ⟨by omega, by omega⟩]; omega] at key; exact key
            · have y2 := mt (nI_leI (a := hC h w - i) (b := lf k w) (by omega) (by omega)).mpr y
              have := mt (nI_leI (a := ouM h w (hC h w - 1 - i) k) (b := stn (now h) - stn k) (by omega) (by omega)).mpr q
              rw [show ouM h w (hC h w - 1 - i) (k + 1) = stn (now h) - stn k by simp only [ouM]; rw [if_pos ⟨by omega, by omega⟩]; omega] at key; exact key
      exact head (now h + 1) 0 (by omega) (by omega)
    unfold P_X1_fewestPulls
    refine ⟨now h + 2, ?_⟩
    have head : ∀ n k, n = now h + 1 - k → k ≤ now h + 1 → P_X1_fewestPulls_l6 19 (nI w) (nI (hC h w - 1 - i)) (fun k4 t70 => ((0 ≤ k4) → P_X7_out (nI w) (nI i) τ (fun r' τ' => k4 = r' ∧ Inv τ')) ∧ ((¬ 0 ≤ k4) → P_X6_finding ((-1000000004)) τ (fun r58 t58 => P_X7_out (nI w) (nI i) t58 (fun r' τ' => r58 = r' ∧ Inv τ')))) (fun k4 => ((0 ≤ k4) → P_X7_out (nI w) (nI i) τ (fun r' τ' => k4 = r' ∧ Inv τ')) ∧ ((¬ 0 ≤ k4) → P_X6_finding ((-1000000004)) τ (fun r58 t58 => P_X7_out (nI w) (nI i) t58 (fun r' τ' => r58 = r' ∧ Inv τ')))) (n + 1) (ouI (ouC h w (hC h w - 1 - i) k)) (nI k) τ := by
      intro n
      induction n with
      | zero =>
        intro k hk hk2
        have e : k = now h + 1 := by omega
        subst e
        rw [P_X1_fewestPulls_l6, hV.1]
        refine ⟨fun _ => ?_, fun z => absurd (nI_lt (by omega) (by omega)) z⟩
        rw [ou_eq hw h4 (by omega)]
        have o29 := ouM_le h w (hC h w - 1 - i) (now h + 1)
        by_cases e : ouM h w (hC h w - 1 - i) (now h + 1) = 29
        · rw [show ouI (ouM h w (hC h w - 1 - i) (now h + 1)) = -1 by unfold ouI; rw [if_pos e]]
          refine ⟨fun z => absurd z (by decide), fun _ => ff (i := 3) (by omega) (by decide) Rτ Dτ (fun ω Fω Rω E => ?_)⟩
          exact mod ω _ Rω (fun y => by omega) (fun _ ω2 R2 F2 => fm (i := 3) (by omega) (by decide) R2 (E.fr F2 (by decide) (by decide)) (fun _ J => ⟨rfl, J⟩))
        · rw [show ouI (ouM h w (hC h w - 1 - i) (now h + 1)) = nI (ouM h w (hC h w - 1 - i) (now h + 1)) by unfold ouI; rw [if_neg e]]
          exact ⟨fun _ => mod τ _ Rτ (fun _ ω Rω Fω => ⟨rfl, h, Rω, Dτ.fr Fω (by decide) (by decide)⟩) (fun y => by omega), fun z => absurd (nI_pos' (by omega)) z⟩
      | succ n ih =>
        intro k hk hk2
        have key := ih (k + 1) (by omega) (by omega)
        rw [P_X1_fewestPulls_l6, hV.1, nI_clamp (by omega), W k (by omega), lgc_pos (V_lt hw k), nI_1]
        have l8 := lf_lt k w
        have o29 := ouC_le h w (hC h w - 1 - i) k
        refine ⟨fun z => absurd ((nI_ltI (by omega) (by omega)).mp z) (by omega), fun _ => ⟨in_I (by omega) (by omega), fun z => ?_, fun z => s_leftAt (by omega) h4 ?_⟩⟩
        · rw [show ouC h w (hC h w - 1 - i) (k + 1) = ouC h w (hC h w - 1 - i) k by simp only [ouC]; rw [if_neg (by omega)]] at key; exact key
        · rw [nI_eq (by omega) (by omega)]
          refine ⟨fun y => ?_, fun y => s_pulledAt hV hw (V_pr (ok := okT) hw (by omega)) ⟨fun q => ?_, fun q => ?_⟩⟩
          · rw [show ouC h w (hC h w - 1 - i) (k + 1) = ouC h w (hC h w - 1 - i) k by simp only [ouC]; rw [if_neg (by omega)]] at key; exact key
          · have ne : ¬ ouC h w (hC h w - 1 - i) k = 29 := fun e => by
              rw [show ouI (ouC h w (hC h w - 1 - i) k) = -1 by unfold ouI; rw [if_pos e]] at q; exact absurd q (by decide)
            rw [show ouI (ouC h w (hC h w - 1 - i) k) = nI (ouC h w (hC h w - 1 - i) k) by unfold ouI; rw [if_neg ne], mn_I (by omega) (by omega)]
            rw [show ouC h w (hC h w - 1 - i) (k + 1) = min (ouC h w (hC h w - 1 - i) k) (stn (now h) - stn k) by simp only [ouC]; rw [if_pos ⟨by omega, y⟩], show ouI (min (ouC h w (hC h w - 1 - i) k) (stn (now h) - stn k)) = nI (min (ouC h w (hC h w - 1 - i) k) (stn (now h) - stn k)) by unfold ouI; rw [if_neg (by omega)]] at key
            exact key
          · have e : ouC h w (hC h w - 1 - i) k = 29 := by
              by_cases e : ouC h w (hC h w - 1 - i) k = 29
              · exact e
              · rw [show ouI (ouC h w (hC h w - 1 - i) k) = nI (ouC h w (hC h w - 1 - i) k) by unfold ouI; rw [if_neg e]] at q
                exact absurd (nI_pos' (by omega)) q
            rw [show ouC h w (hC h w - 1 - i) (k + 1) = stn (now h) - stn k by simp only [ouC]; rw [if_pos ⟨by omega, y⟩]; omega, show ouI (stn (now h) - stn k) = nI (stn (now h) - stn k) by unfold ouI; rw [if_neg (by omega)]] at key
            exact key
    exact head (now h + 1) 0 (by omega) (by omega)
  · refine st_n H hw no (bF' (bad0 R D (P2 := P_X7_out p0 p1) (fun τ Rτ X b => ?_)))
    unfold P_X7_out
    exact stm_n Rτ.2.2.2.1 hw no (bF' (b _ Rτ Fr.rf))
