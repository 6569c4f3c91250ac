/-! FEED -/
def byN (p : Int32) (l : Nat) : Nat := (p >>> ((8 * nI l) &&& 31)).toBitVec.toNat % 2 ^ 8
theorem by_eq (p : Int32) (l : Nat) : (p >>> ((8 * nI l) &&& 31)) &&& 255 = nI (byN p l) := pk_and _ 8 (by decide)
theorem by_lt (p : Int32) (l : Nat) : byN p l < 256 := Nat.mod_lt _ (by decide)
/-- the tape with the bytes behind it, of which k are still to come -/
def bsN (bs : Nat → Nat) (p : Int32) (L n : Nat) (j : Nat) : Nat := if j < L then bs j else byN p (n - 1 - (j - L))
theorem pp_feed {σ : St} (I : Inv σ) (p0 p1 : Int32) : Same (P_X6_feed p0 p1 σ) (P_X7_feed p0 p1) := by
  obtain ⟨h, R, D⟩ := I
  obtain ⟨hw, hn, H, M, K⟩ := id R
  obtain ⟨L, bs, L1, L2, L3, L4⟩ := K.2.1
  unfold Same P_X6_feed
  rcases rn p1 1 4 with ⟨n, n1, n4, rfl⟩ | nn
  · refine wi_y (a := 1) (b := 4) n1 n4 (by omega) (bT' ?_)
    rw [L2, nI_add, show nI n - 1 = nI (n - 1) from pk_sub (b := 1) (by omega)]
    have le := nI_leI (a := L + n) (b := 120) (by omega) (by omega)
    refine ⟨fun z => ⟨n + 1, ?_⟩, fun z => ?_⟩
    · have hln := le.mp z
      have cls : ∀ k (θ : St), k ≤ n → Fr (fun c => c = 27 ∨ c = 28) σ θ → gI θ 27 1 = nI (L + (n - k)) → (∀ j, j < L + (n - k) → gI θ 28 j = nI (bsN bs p0 L n j)) → P_X6_feed_l44 p0 (fun t74 => P_X7_feed p0 (nI n) t74 (fun r' τ' => gI t74 27 1 = r' ∧ Inv τ')) (fun r τ => P_X7_feed p0 (nI n) τ (fun r' τ' => r = r' ∧ Inv τ')) (k + 1) (nI k - 1) θ := by
        intro k
        induction k with
        | zero =>
          intro θ hk F e A
          rw [P_X6_feed_l44]
          refine ⟨fun _ => ?_, fun y => absurd (by decide) y⟩
          have F49 : ∀ j, gI θ 49 j = gI σ 49 j := F.i (by decide)
          unfold P_X7_feed
          dsimp only
          rw [F49, L3, nI_add, show nI n - 1 = nI (n - 1) from pk_sub (b := 1) (by omega), e]
          refine in_y (a := 1) (b := 4) n1 n4 (by omega) (bT' ⟨fun _ => ⟨n + 1, ?_⟩, fun y => absurd z y⟩)
          have mod : ∀ k (ω : St), k ≤ n → Fr (fun c => c = 49 ∨ c = 58) θ ω → gI ω 49 22 = gI θ 49 22 → gI ω 49 9 = nI (L + (n - k)) → (∀ j, j < L + (n - k) → gI ω 58 j = nI (bsN bs p0 L n j)) → P_X7_feed_l38 p0 (fun t77 => nI (L + (n - 0)) = gI t77 49 9 ∧ Inv t77) (fun r' τ' => nI (L + (n - 0)) = r' ∧ Inv τ') (k + 1) (nI k - 1) ω := by
            intro k
            induction k with
            | zero =>
              intro ω hk G e22 e9 B
              rw [P_X7_feed_l38]
              refine ⟨fun _ => ⟨e9.symm, tp_inv R D ((F.mono (fun c q => by omega)).tr (G.mono (fun c q => by omega))) (e22.trans (F49 22)) ⟨L + n, bsN bs p0 L n, hln, ?_, e9, fun j hj => ⟨?_, ?_, B j hj⟩⟩⟩, fun y => absurd (by decide) y⟩
              · rw [G.i (by decide)]; exact e
              · unfold bsN
                split
                · rename_i q; exact (L4 j q).1
                · exact by_lt _ _
              · rw [G.i (by decide)]; exact A j hj
            | succ k ih =>
              intro ω hk G e22 e9 B
              rw [P_X7_feed_l38, nI_pred, by_eq, e9, nI_clamp (by omega), show nI k + (-1) = nI k - 1 from (Int32.sub_eq_add_neg _ _).symm, gI_ne (by omega), e9, nI_1]
              refine ⟨fun y => absurd y (nI_pos (by omega)), fun _ => ⟨in_I (by omega) (by omega), ih _ (by omega) ((G.sI (Or.inr rfl) _ _).sI (Or.inl rfl) _ _) ?_ ?_ (fun j hj => ?_)⟩⟩
              · rw [gI_ne (by omega), gI_ne (by omega)]; exact e22
              · rw [gI_eq, show L + (n - (k + 1)) + 1 = L + (n - k) by omega]
              · rw [gI_ne (by omega)]
                by_cases q : j = L + (n - (k + 1))
                · rw [q, gI_eq]
                  unfold bsN
                  rw [if_neg (by omega), show n - 1 - (L + (n - (k + 1)) - L) = k by omega]
                · rw [gI_ne (by omega)]; exact B j (by omega)
          have := mod n θ (Nat.le_refl _) Fr.rf rfl (by rw [F49, L3, Nat.sub_self, Nat.add_zero]) (fun j hj => by
            rw [F.i (k := 58) (by decide)]
            have q : j < L := by omega
            unfold bsN; rw [if_pos q]; exact (L4 j q).2.2)
          rw [show nI n - 1 = nI (n - 1) from pk_sub (b := 1) (by omega)] at this
          exact this
        | succ k ih =>
          intro θ hk F e A
          rw [P_X6_feed_l44, nI_pred, by_eq, show nI k + (-1) = nI k - 1 from (Int32.sub_eq_add_neg _ _).symm]
          refine ⟨fun y => absurd y (nI_pos (by omega)), fun _ => ?_⟩
          unfold P_X4_append
          rw [e, nI_clamp (by omega), gI_ne (by omega), e, nI_1]
          refine ⟨in_I (by omega) (by omega), ih _ (by omega) ((F.sI (Or.inr rfl) _ _).sI (Or.inl rfl) _ _) ?_ (fun j hj => ?_)⟩
          · rw [gI_eq, show L + (n - (k + 1)) + 1 = L + (n - k) by omega]
          · rw [gI_ne (by omega)]
            by_cases q : j = L + (n - (k + 1))
            · rw [q, gI_eq]
              unfold bsN
              rw [if_neg (by omega), show n - 1 - (L + (n - (k + 1)) - L) = k by omega]
            · rw [gI_ne (by omega)]; exact A j (by omega)
      have := cls n σ (Nat.le_refl _) Fr.rf (by rw [L2, Nat.sub_self, Nat.add_zero]) (fun j hj => by
        have q : j < L := by omega
        unfold bsN; rw [if_pos q]; exact (L4 j q).2.1)
      rw [show nI n - 1 = nI (n - 1) from pk_sub (b := 1) (by omega)] at this
      exact this
    · refine ff (i := 1) (by omega) (by decide) R D (fun τ F Rτ E => ?_)
      unfold P_X7_feed
      dsimp only
      rw [F.i (k := 49) (by decide), L3, nI_add]
      exact in_y (a := 1) (b := 4) n1 n4 (by omega) (bT' ⟨fun y => absurd y z, fun _ => fm (i := 1) (by omega) (by decide) Rτ E (fun _ J => ⟨rfl, J⟩)⟩)
  · refine wi_n (a := 1) (b := 4) (by omega) (by omega) nn (bF' (bad0 R D (P2 := P_X7_feed p0 p1) (fun τ Rτ X b => ?_)))
    unfold P_X7_feed
    exact in_n (a := 1) (b := 4) (by omega) (by omega) nn (bF' (b _ Rτ Fr.rf))
