/-! READ, THE PAIR -/
theorem m_rpass {h : MH} {s Z a : Nat} {τ : St} {l3 l7 : Int32} {l4 : Int64} (hw : Wf h) (ha : a ≤ now h) {x : Nat} (hx : x < 2 ^ 63) (ex : gL τ 54 a = lN x) (c : nI Z ≤ l7 ∨ x = 0) {K : St → Prop} {Q : Int64 → St → Prop} (kk : K τ) : ∃ m, P_X7_read_l142 (nI s) (nI Z) l3 l4 (nI a) l7 K Q m 0 τ := by
  have hn := now_lt hw
  refine ⟨1, ?_⟩
  rw [P_X7_read_l142, nI_clamp (n := a) (by omega), ex, lgc_pos hx]
  refine ⟨fun _ => kk, fun _ => ⟨fun _ => kk, fun z => ⟨in_I (by omega) (by omega), fun _ => kk, fun y => ?_⟩⟩⟩
  rcases c with c | c
  · exact absurd c z
  · exact absurd c y
theorem m_read100 {σ : St} {h : MH} {s Z : Nat} {f : Nat → Int64} (hw : Wf h) (M : Ms σ 50 h) (O : Mo σ h) (h4 : s < 4) (hZ : Z ≤ 28) (ef : ∀ j, j < 40 → gL σ 61 (40 * s + j) = f j) {K Q : Int64 → St → Prop}
    (kk : ∀ τ, Fr (isC 54) σ τ → K (lN (wsN h (okS f Z h) Z (now h + 1))) τ) : ∀ k r τ, k ≤ now h + 1 → r + wsN h (okS f Z h) Z k = wsN h (okS f Z h) Z (now h + 1) → Fr (isC 54) σ τ → AR2 τ 54 h (okS f Z h) k → P_X7_read_l100 (nI s) (nI Z) (nI (now h)) K Q (k + 1) (lN r) (nI k - 1) τ := by
  have hn := now_lt hw
  have s28 := stn_le (now h)
  intro k
  induction k with
  | zero =>
    intro r τ hk hr F A
    rw [P_X7_read_l100]
    refine ⟨fun _ => ?_, fun z => absurd (by decide) z⟩
    rw [show r = wsN h (okS f Z h) Z (now h + 1) by simp only [wsN] at hr ⊢; omega]
    exact kk τ F
  | succ a ih =>
    intro r τ hk hr F A
    rw [show wsN h (okS f Z h) Z (a + 1) = wsN h (okS f Z h) Z a + if 0 < V h (okS f Z h) a ∧ stn (now h) - stn a = Z then V h (okS f Z h) a else 0 from rfl] at hr
    have ea := AR2_at A
    have sa := stn_le a
    rw [P_X7_read_l100, nI_pred, nI_clamp (by omega), ea, show nI a + (-1) = nI a - 1 from (Int32.sub_eq_add_neg _ _).symm, lN_add, Int64.add_zero]
    have vlt := V_lt (ok := okS f Z h) hw a
    -- with the sum r2 so far, on to the next stand
    have inner : ∀ r2 (l7 : Int32), r2 + wsN h (okS f Z h) Z a = wsN h (okS f Z h) Z (now h + 1) → (prB h a = true → l7 = nI (stn (now h) - stn a)) → ∃ m142, P_X7_read_l142 (nI s) (nI Z) (nI (now h)) (lN r2) (nI a) l7 (fun t244 => P_X7_read_l100 (nI s) (nI Z) (nI (now h)) K Q (a + 1) (lN r2) (nI a - 1) t244) Q m142 0 τ := by
      intro r2 l7 hr2 e7
      by_cases v0 : V h (okS f Z h) a = 0
      · exact m_rpass hw (by omega) vlt ea (Or.inr v0) (ih r2 τ (by omega) hr2 F (AI2_none (AR2_in A) (fun _ _ => Or.inr v0)))
      · have hp : prB h a = true := V_pr (ok := okS f Z h) hw (by omega)
        rw [e7 hp]
        by_cases c : stn (now h) - stn a < Z
        · exact ⟨5, m_read142 hw M O h4 hZ ef hp (by omega) c (fun ρ Fρ Aρ => ih r2 ρ (by omega) hr2 Fρ Aρ) 4 0 τ (by omega) (by omega) F (AR2_in A)⟩
        · refine m_rpass hw (by omega) vlt ea (Or.inl (nI_le (by omega) (by omega))) (ih r2 τ (by omega) hr2 F (AI2_none (AR2_in A) (fun v _ => Or.inl ?_)))
          unfold ed okS
          rw [decide_eq_false (fun q => c q.1), Bool.and_false]
    refine ⟨fun z => absurd z (nI_pos (by omega)), fun _ => m_stones hn (m_stones (by omega) ⟨fun z => inner r _ ?_ ?_, fun z => ⟨in_I (by omega) (by omega), inner (r + V h (okS f Z h) a) _ ?_ ?_⟩⟩)⟩
    · by_cases c : 0 < V h (okS f Z h) a ∧ stn (now h) - stn a = Z
      · exact absurd (by rw [pk_sub (stn_lt hw (V_pr (ok := okS f Z h) hw c.1)), c.2]) z
      · rw [if_neg c] at hr; omega
    · exact fun hp => pk_sub (stn_lt hw hp)
    · by_cases v0 : V h (okS f Z h) a = 0
      · rw [if_neg (by omega)] at hr; omega
      · have slt := stn_lt hw (V_pr (ok := okS f Z h) hw (show 0 < V h (okS f Z h) a by omega))
        rw [pk_sub slt, nI_eq (by omega) (by omega)] at z
        rw [if_pos ⟨by omega, z⟩] at hr; omega
    · exact fun hp => pk_sub (stn_lt hw hp)
