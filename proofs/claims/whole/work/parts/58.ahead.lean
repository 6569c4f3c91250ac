/-! THE REFERENCE'S read LOOKS AT SAFETY AHEAD -/
def Jv (h : MH) (ok : Nat → Nat → Bool) (a v s : Nat) : Nat := if s = now h ∨ sf h s = true then Iv h ok a v s else 0
def AR2 (σ : St) (c : Nat) (h : MH) (ok : Nat → Nat → Bool) (k : Nat) : Prop := (∀ s, k ≤ s → s ≤ now h → gL σ c s = lN (V h ok s)) ∧ ∀ s, s < k → gL σ c s = lN (Jv h ok k 4 s)
def AI2 (σ : St) (c : Nat) (h : MH) (ok : Nat → Nat → Bool) (a v : Nat) : Prop := (∀ s, a ≤ s → s ≤ now h → gL σ c s = lN (V h ok s)) ∧ ∀ s, s < a → gL σ c s = lN (Jv h ok a v s)
theorem AI2_push {σ : St} {c : Nat} {h : MH} {ok : Nat → Nat → Bool} {a v : Nat} (A : AI2 σ c h ok a v) (h4 : v < 4) (z : ed h ok a v = true) (y : sf h (a - 8 ^ v) = true) : AI2 (sL σ c (a - 8 ^ v) (gL σ c (a - 8 ^ v) + gL σ c a)) c h ok a (v + 1) := by
  have h8 := ed_8 h4 z
  have hp := p8_pos v
  have hl := ed_le z
  refine ⟨fun s hs hn => ?_, fun s hs => ?_⟩
  · rw [gL_ne (by omega)]; exact A.1 s hs hn
  · by_cases e : s = a - 8 ^ v
    · rw [e, gL_eq, A.2 _ (by omega), A.1 a (by omega) hl, lN_add]
      unfold Jv
      rw [if_pos (Or.inr y), if_pos (Or.inr y), Iv_push h4 z]
    · rw [gL_ne (by omega), A.2 s hs]
      unfold Jv
      rw [Iv_oth (by omega)]
theorem AI2_skip {σ : St} {c : Nat} {h : MH} {ok : Nat → Nat → Bool} {a v : Nat} (A : AI2 σ c h ok a v) (z : ed h ok a v = false) : AI2 σ c h ok a (v + 1) :=
  ⟨A.1, fun s hs => by rw [A.2 s hs]; unfold Jv; rw [Iv_skip (Or.inl z)]⟩
theorem AI2_uns {σ : St} {c : Nat} {h : MH} {ok : Nat → Nat → Bool} {a v : Nat} (A : AI2 σ c h ok a v) (ha : a ≤ now h) (z : sf h (a - 8 ^ v) = false) : AI2 σ c h ok a (v + 1) := by
  refine ⟨A.1, fun s hs => ?_⟩
  rw [A.2 s hs]
  by_cases e : s + 8 ^ v = a
  · have es : s = a - 8 ^ v := by omega
    unfold Jv
    have no : ¬ (s = now h ∨ sf h s = true) := by
      rintro (q | q)
      · omega
      · rw [es, z] at q; exact absurd q (by decide)
    rw [if_neg no, if_neg no]
  · unfold Jv
    rw [Iv_oth e]
theorem AI2_end {σ : St} {c : Nat} {h : MH} {ok : Nat → Nat → Bool} {a : Nat} (A : AI2 σ c h ok a 4) : AR2 σ c h ok a := A
theorem AI2_none {σ : St} {c : Nat} {h : MH} {ok : Nat → Nat → Bool} {a : Nat} (A : AI2 σ c h ok a 0) (z : ∀ v, v < 4 → ed h ok a v = false ∨ V h ok a = 0) : AR2 σ c h ok a :=
  ⟨A.1, fun s hs => by rw [A.2 s hs]; unfold Jv; rw [Iv_skip (v := 3) (z 3 (by omega)), Iv_skip (v := 2) (z 2 (by omega)), Iv_skip (v := 1) (z 1 (by omega)), Iv_skip (v := 0) (z 0 (by omega))]⟩
theorem AR2_at {σ : St} {c : Nat} {h : MH} {ok : Nat → Nat → Bool} {a : Nat} (A : AR2 σ c h ok (a + 1)) : gL σ c a = lN (V h ok a) := by
  rw [A.2 a (by omega), V_B]; unfold Jv; rw [Iv_at]
theorem AR2_in {σ : St} {c : Nat} {h : MH} {ok : Nat → Nat → Bool} {a : Nat} (A : AR2 σ c h ok (a + 1)) : AI2 σ c h ok a 0 := by
  refine ⟨fun s hs hn => ?_, fun s hs => ?_⟩
  · by_cases e : s = a
    · rw [e, AR2_at A]
    · exact A.1 s (by omega) hn
  · rw [A.2 s (by omega)]; unfold Jv; rw [Iv_nx]
theorem AR2_0 {σ : St} {c : Nat} {h : MH} {ok : Nat → Nat → Bool} (hz : ∀ s, s ≤ now h → gL σ c s = if s = now h then 1 else 0) : AR2 σ c h ok (now h + 1) := by
  refine ⟨fun s hs hn => by omega, fun s hs => ?_⟩
  rw [hz s (by omega)]
  unfold Jv
  rw [Iv_top]
  by_cases e : s = now h
  · rw [if_pos e, if_pos (Or.inl e), if_pos e]; rfl
  · rw [if_neg e]
    split <;> rfl
