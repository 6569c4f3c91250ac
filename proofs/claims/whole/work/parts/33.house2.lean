/-! changes of a house -/
abbrev inH (a : Nat) : Nat → Prop := fun k => a ≤ k ∧ k ≤ a + 5
theorem s_becomeLike {σ : St} {a p : Nat} {h : MH} (H : Hs σ p h) (hw : Wf h) (hap : a + 5 < p ∨ p + 5 < a) {Q : St → Prop} (hQ : ∀ τ, Fr (inH a) σ τ → Hs τ a h → Q τ) : P_X0_becomeLike a p σ Q := by
  unfold P_X0_becomeLike
  intro s70 e70 s86 e86
  refine hQ _ ?_ ?_
  · have i1 : ∀ j, j ≤ 5 → inH a (a + j) := fun j hj => ⟨by omega, by omega⟩
    have i0 : inH a a := ⟨by omega, by omega⟩
    rw [e86, e70]
    exact (((((((((Fr.rf.cI (i1 1 (by omega)) _ _ _ _).cI (i1 2 (by omega)) _ _ _ _).cI (i1 3 (by omega)) _ _ _ _).cI (i1 4 (by omega)) _ _ _ _).cI (i1 5 (by omega)) _ _ _ _).sI i0 _ _).sI i0 _ _).sI i0 _ _).sI i0 _ _)
  · obtain ⟨H1, H2, H3, H4, H5⟩ := H
    unfold Hs
    rw [e86, e70]
    refine ⟨fun w h4 => ?_, ?_, ?_, ?_, ?_⟩
    · obtain ⟨g1, g2, g3⟩ := H1 w h4
      refine ⟨?_, ?_, fun i hi => ?_⟩
      · repeat (first | rw [gI_eq] | rw [gI_ne (by omega)] | rw [gI_cn (by omega)] | rw [gI_ci (by omega) (by omega)])
        rw [show 0 + (w - 0) = w by omega]
        exact g1
      · repeat (first | rw [gI_eq] | rw [gI_ne (by omega)] | rw [gI_cn (by omega)] | rw [gI_ci (by omega) (by omega)])
        rw [show 0 + (w - 0) = w by omega]
        exact g2
      · have hl := pl28 hw h4 hi
        obtain ⟨f1, f2, f3⟩ := g3 i hi
        refine ⟨?_, ?_, ?_⟩
        · repeat (first | rw [gI_eq] | rw [gI_ne (by omega)] | rw [gI_cn (by omega)] | rw [gI_ci (by omega) (by omega)])
          rw [show 0 + (w * 7 + i - 0) = w * 7 + i by omega]
          exact f1
        · repeat (first | rw [gI_eq] | rw [gI_ne (by omega)] | rw [gI_cn (by omega)] | rw [gI_ci (by omega) (by omega)])
          rw [show 0 + (w * 7 + i - 0) = w * 7 + i by omega]
          exact f2
        · repeat (first | rw [gI_eq] | rw [gI_ne (by omega)] | rw [gI_cn (by omega)] | rw [gI_ci (by omega) (by omega)])
          rw [show 0 + (w * 7 + i - 0) = w * 7 + i by omega]
          exact f3
    · repeat (first | rw [gI_eq] | rw [gI_ne (by omega)] | rw [gI_cn (by omega)] | rw [gI_ci (by omega) (by omega)])
      exact H2
    · repeat (first | rw [gI_eq] | rw [gI_ne (by omega)] | rw [gI_cn (by omega)] | rw [gI_ci (by omega) (by omega)])
      exact H3
    · repeat (first | rw [gI_eq] | rw [gI_ne (by omega)] | rw [gI_cn (by omega)] | rw [gI_ci (by omega) (by omega)])
      exact H4
    · repeat (first | rw [gI_eq] | rw [gI_ne (by omega)] | rw [gI_cn (by omega)] | rw [gI_ci (by omega) (by omega)])
      exact H5
def hput (h : MH) (k w x p : Nat) : MH := (fun v => if v = w then hC h v + 1 else hC h v, fun v i => if v = w ∧ i = hC h w then k else hK h v i, fun v i => if v = w ∧ i = hC h w then x else hH h v i, fun v i => if v = w ∧ i = hC h w then p else hP h v i, hW h, hB h, hS h, hN h, hU h)
def htake (h : MH) (w : Nat) : MH := (fun v => if v = w then hC h v - 1 else hC h v, fun v i => if v = w then hK h v (i + 1) else hK h v i, fun v i => if v = w then hH h v (i + 1) else hH h v i, fun v i => if v = w then hP h v (i + 1) else hP h v i, hW h, hB h, hS h, hN h, min 999999 (hU h + coin h w 0))
def hbm (h : MH) (b : Nat) : MH := (hC h, hK h, hH h, hP h, hW h, b, hS h, hN h, hU h)
def hsl (h : MH) (v : Nat) : MH := (hC h, hK h, hH h, hP h, hW h, hB h, v, hN h, hU h)
def hni (h : MH) (v : Nat) : MH := (hC h, hK h, hH h, hP h, hW h, hB h, hS h, v, hU h)
def hwe (h : MH) (w v : Nat) : MH := (hC h, hK h, hH h, hP h, fun u => if u = w then v else hW h u, hB h, hS h, hN h, hU h)
def hkd (h : MH) (w i k : Nat) : MH := (hC h, fun v j => if v = w ∧ j = i then k else hK h v j, hH h, hP h, hW h, hB h, hS h, hN h, hU h)
def hhi (h : MH) (w i k : Nat) : MH := (hC h, hK h, fun v j => if v = w ∧ j = i then k else hH h v j, hP h, hW h, hB h, hS h, hN h, hU h)
def hpr (h : MH) (w i k : Nat) : MH := (hC h, hK h, hH h, fun v j => if v = w ∧ j = i then k else hP h v j, hW h, hB h, hS h, hN h, hU h)
theorem wf_put {h : MH} (hw : Wf h) {k w x p : Nat} (hc : hC h w < 7) (hk : k < 6) (hx : x ≤ 30) (hp : p ≤ 999) : Wf (hput h k w x p) := by
  refine ⟨fun v h4 => ?_, hw.2⟩
  obtain ⟨a, b, c⟩ := hw.1 v h4
  refine ⟨?_, b, fun i hi => ?_⟩
  · show (if v = w then hC h v + 1 else hC h v) ≤ 7
    split
    · rename_i e; subst e; omega
    · exact a
  · replace hi : i < (if v = w then hC h v + 1 else hC h v) := hi
    show (if v = w ∧ i = hC h w then k else hK h v i) < 6 ∧ (if v = w ∧ i = hC h w then x else hH h v i) ≤ 30 ∧ (if v = w ∧ i = hC h w then p else hP h v i) ≤ 999
    by_cases e : v = w ∧ i = hC h w
    · rw [if_pos e, if_pos e, if_pos e]; exact ⟨hk, hx, hp⟩
    · rw [if_neg e, if_neg e, if_neg e]
      refine c i ?_
      by_cases e2 : v = w
      · subst e2; rw [if_pos rfl] at hi; have : ¬ i = hC h v := fun z => e ⟨rfl, z⟩; omega
      · rw [if_neg e2] at hi; exact hi
theorem wf_take {h : MH} (hw : Wf h) {w : Nat} (h0 : 0 < hC h w) : Wf (htake h w) := by
  refine ⟨fun v h4 => ?_, hw.2.1, hw.2.2.1, hw.2.2.2.1, ?_⟩
  · obtain ⟨a, b, c⟩ := hw.1 v h4
    refine ⟨?_, b, fun i hi => ?_⟩
    · show (if v = w then hC h v - 1 else hC h v) ≤ 7
      split <;> omega
    · replace hi : i < (if v = w then hC h v - 1 else hC h v) := hi
      show (if v = w then hK h v (i + 1) else hK h v i) < 6 ∧ (if v = w then hH h v (i + 1) else hH h v i) ≤ 30 ∧ (if v = w then hP h v (i + 1) else hP h v i) ≤ 999
      by_cases e : v = w
      · rw [if_pos e] at hi
        rw [if_pos e, if_pos e, if_pos e]; exact c (i + 1) (by omega)
      · rw [if_neg e] at hi
        rw [if_neg e, if_neg e, if_neg e]; exact c i hi
  · show min 999999 (hU h + coin h w 0) ≤ 999999
    omega
theorem wf_bm {h : MH} (hw : Wf h) {b : Nat} (hb : b < 8) : Wf (hbm h b) := ⟨hw.1, hb, hw.2.2⟩
theorem wf_sl {h : MH} (hw : Wf h) {v : Nat} (hv : v ≤ 200) : Wf (hsl h v) := ⟨hw.1, hw.2.1, hv, hw.2.2.2⟩
theorem wf_ni {h : MH} (hw : Wf h) {v : Nat} (hv : v ≤ 2000) : Wf (hni h v) := ⟨hw.1, hw.2.1, hw.2.2.1, hv, hw.2.2.2.2⟩
theorem wf_we {h : MH} (hw : Wf h) {w v : Nat} (hv : v ≤ 20) : Wf (hwe h w v) := ⟨fun u h4 => ⟨(hw.1 u h4).1, by show (if u = w then v else hW h u) ≤ 20; split; exact hv; exact (hw.1 u h4).2.1, (hw.1 u h4).2.2⟩, hw.2⟩
theorem wf_kd {h : MH} (hw : Wf h) {w i k : Nat} (hk : k < 6) : Wf (hkd h w i k) := ⟨fun u h4 => ⟨(hw.1 u h4).1, (hw.1 u h4).2.1, fun j hj => ⟨by show (if u = w ∧ j = i then k else hK h u j) < 6; split; exact hk; exact ((hw.1 u h4).2.2 j hj).1, ((hw.1 u h4).2.2 j hj).2⟩⟩, hw.2⟩
theorem wf_hi {h : MH} (hw : Wf h) {w i k : Nat} (hk : k ≤ 30) : Wf (hhi h w i k) := ⟨fun u h4 => ⟨(hw.1 u h4).1, (hw.1 u h4).2.1, fun j hj => ⟨((hw.1 u h4).2.2 j hj).1, by show (if u = w ∧ j = i then k else hH h u j) ≤ 30; split; exact hk; exact ((hw.1 u h4).2.2 j hj).2.1, ((hw.1 u h4).2.2 j hj).2.2⟩⟩, hw.2⟩
theorem wf_pr {h : MH} (hw : Wf h) {w i k : Nat} (hk : k ≤ 999) : Wf (hpr h w i k) := ⟨fun u h4 => ⟨(hw.1 u h4).1, (hw.1 u h4).2.1, fun j hj => ⟨((hw.1 u h4).2.2 j hj).1, ((hw.1 u h4).2.2 j hj).2.1, by show (if u = w ∧ j = i then k else hP h u j) ≤ 999; split; exact hk; exact ((hw.1 u h4).2.2 j hj).2.2⟩⟩, hw.2⟩
theorem s_put {σ : St} {a : Nat} {h : MH} (H : Hs σ a h) (hw : Wf h) {k w x p : Nat} (h4 : w < 4) (hc : hC h w < 7) {Q : St → Prop} (hQ : ∀ τ, Fr (inH a) σ τ → Hs τ a (hput h k w x p) → Q τ) : P_X0_put a (nI k) (nI w) (nI x) (nI p) σ Q := by
  have hin : vp_in (nI w) 4 := in_I h4 (by omega)
  obtain ⟨H1, H2, H3, H4, H5⟩ := H
  unfold P_X0_put
  rw [nI_clamp (by omega), (H1 w h4).1]
  refine ⟨hin, s_place ?_⟩
  have hi28 : vp_in (nI (w * 7 + hC h w)) 28 := in_I (by omega) (by omega)
  rw [nI_clamp (by omega)]
  refine ⟨hi28, hi28, hi28, hin, hin, ?_⟩
  have i1 : ∀ j, j ≤ 5 → inH a (a + j) := fun j hj => ⟨by omega, by omega⟩
  refine hQ _ ((((Fr.rf.sI (i1 1 (by omega)) _ _).sI (i1 2 (by omega)) _ _).sI (i1 3 (by omega)) _ _).sI (i1 4 (by omega)) _ _) ?_
  have e4 : gI (sI (sI (sI σ (a + 1) (w * 7 + hC h w) (nI k)) (a + 2) (w * 7 + hC h w) (nI x)) (a + 3) (w * 7 + hC h w) (nI p)) (a + 4) w + 1 = nI (hC h w + 1) := by
    rw [gI_ne (by omega), gI_ne (by omega), gI_ne (by omega), (H1 w h4).1, nI_1]
  rw [e4]
  refine ⟨fun v hv => ?_, ?_, ?_, ?_, ?_⟩
  · obtain ⟨g1, g2, g3⟩ := H1 v hv
    refine ⟨?_, ?_, fun i hi => ?_⟩
    · show _ = nI (if v = w then hC h v + 1 else hC h v)
      by_cases e : v = w
      · subst e; rw [gI_eq, if_pos rfl]
      · rw [if_neg e, gI_ne (by omega), gI_ne (by omega), gI_ne (by omega), gI_ne (by omega)]; exact g1
    · rw [gI_ne (by omega), gI_ne (by omega), gI_ne (by omega), gI_ne (by omega)]; exact g2
    · replace hi : i < (if v = w then hC h v + 1 else hC h v) := hi
      show _ = nI (if v = w ∧ i = hC h w then k else hK h v i) ∧ _ = nI (if v = w ∧ i = hC h w then x else hH h v i) ∧ _ = nI (if v = w ∧ i = hC h w then p else hP h v i)
      by_cases e : v = w ∧ i = hC h w
      · obtain ⟨e1, e2⟩ := e
        subst e1; subst e2
        rw [if_pos ⟨rfl, rfl⟩, if_pos ⟨rfl, rfl⟩, if_pos ⟨rfl, rfl⟩]
        refine ⟨?_, ?_, ?_⟩
        · rw [gI_ne (by omega), gI_ne (by omega), gI_ne (by omega), gI_eq]
        · rw [gI_ne (by omega), gI_ne (by omega), gI_eq]
        · rw [gI_ne (by omega), gI_eq]
      · have hi2 : i < hC h v := by
          by_cases e2 : v = w
          · subst e2; rw [if_pos rfl] at hi; have : ¬ i = hC h v := fun z => e ⟨rfl, z⟩; omega
          · rw [if_neg e2] at hi; exact hi
        have hpl : w * 7 + hC h w ≠ v * 7 + i := by
          have := (hw.1 v hv).1
          intro z
          refine e ⟨by omega, by omega⟩
        rw [if_neg e, if_neg e, if_neg e]
        obtain ⟨f1, f2, f3⟩ := g3 i hi2
        refine ⟨?_, ?_, ?_⟩
        · rw [gI_ne (by omega), gI_ne (by omega), gI_ne (by omega), gI_ne (by omega)]; exact f1
        · rw [gI_ne (by omega), gI_ne (by omega), gI_ne (by omega), gI_ne (by omega)]; exact f2
        · rw [gI_ne (by omega), gI_ne (by omega), gI_ne (by omega), gI_ne (by omega)]; exact f3
  · rw [gI_ne (by omega), gI_ne (by omega), gI_ne (by omega), gI_ne (by omega)]; exact H2
  · rw [gI_ne (by omega), gI_ne (by omega), gI_ne (by omega), gI_ne (by omega)]; exact H3
  · rw [gI_ne (by omega), gI_ne (by omega), gI_ne (by omega), gI_ne (by omega)]; exact H4
  · rw [gI_ne (by omega), gI_ne (by omega), gI_ne (by omega), gI_ne (by omega)]; exact H5
theorem mn_I {a b : Nat} (ha : a < 2 ^ 31) (hb : b < 2 ^ 31) : mnI (nI a) (nI b) = nI (min a b) := by
  unfold mnI
  by_cases h : b < a
  · rw [if_pos (nI_lt h ha), Nat.min_eq_right (by omega)]
  · rw [if_neg (nI_nlt (by omega) hb), Nat.min_eq_left (by omega)]
theorem mx_I {a b : Nat} (ha : a < 2 ^ 31) (hb : b < 2 ^ 31) : mxI (nI a) (nI b) = nI (max a b) := by
  unfold mxI
  by_cases h : a < b
  · rw [if_pos (nI_lt h hb), Nat.max_eq_right (by omega)]
  · rw [if_neg (nI_nlt (by omega) ha), Nat.max_eq_left (by omega)]
theorem ab_I {a b : Nat} (ha : a < 2 ^ 30) (hb : b < 2 ^ 30) : abI (nI a - nI b) = nI (dst a b) := by
  unfold abI dst
  by_cases h : b ≤ a
  · rw [pk_sub h, if_pos (nI_pos' (by omega))]
    by_cases h2 : a ≤ b
    · rw [if_pos h2, show a - b = b - a by omega]
    · rw [if_neg h2]
  · have h1 := pk_sneg (a := a) hb (by omega)
    rw [if_neg (Int32.not_le.mpr h1), if_pos (by omega)]
    have e : (0 : Int32) - (nI a - nI b) = nI b - nI a := by rw [Int32.zero_sub, Int32.neg_sub]
    rw [e, pk_sub (by omega)]
theorem s_takeLowest {σ : St} {a : Nat} {h : MH} (H : Hs σ a h) (hw : Wf h) {w : Nat} (h4 : w < 4) (h0 : 0 < hC h w) {Q : St → Prop} (hQ : ∀ τ, Fr (inH a) σ τ → Hs τ a (htake h w) → Q τ) : P_X0_takeLowest a (nI w) σ Q := by
  have hin : vp_in (nI w) 4 := in_I h4 (by omega)
  have hc7 := (hw.1 w h4).1
  have hcl := coin_le hw h4 h0
  have hu := hw.2.2.2.2
  have Hc := H
  obtain ⟨H1, H2, H3, H4, H5⟩ := H
  unfold P_X0_takeLowest
  refine s_coinOf (i := 0) Hc hw h4 h0 ⟨hin, hin, fun s29 e29 => ?_⟩
  rw [nI_clamp (by omega), H5, nI_add, show (999999 : Int32) = nI 999999 from rfl, mn_I (by omega) (by omega)] at e29
  rw [gI_ne (by omega), (H1 w h4).1, show nI (hC h w) - 1 = nI (hC h w - 1) from pk_sub (b := 1) h0] at e29
  have c29 : gI s29 (a + 4) w = nI (hC h w - 1) := by rw [e29, gI_eq]
  refine s_place (i := 0) ?_
  rw [nI_clamp (n := w) (by omega), c29, Nat.add_zero, nI_1, nI_clamp (by omega), nI_clamp (by omega), nI_clamp (by omega)]
  have p1 : ¬ nI (w * 7 + 1) < 0 := nI_pos (by omega)
  have p2 : ¬ nI (w * 7) < 0 := nI_pos (by omega)
  have p3 : ¬ nI (hC h w - 1) < 0 := nI_pos (by omega)
  refine ⟨hin, ⟨p1, p2, p3, by omega, by omega⟩, fun s54 e54 => ?_⟩
  have c54 : gI s54 (a + 4) w = nI (hC h w - 1) := by rw [e54, gI_cn (by omega)]; exact c29
  rw [c54, nI_clamp (by omega)]
  refine ⟨hin, ⟨p1, p2, p3, by omega, by omega⟩, fun s75 e75 => ?_⟩
  have c75 : gI s75 (a + 4) w = nI (hC h w - 1) := by rw [e75, gI_cn (by omega)]; exact c54
  rw [c75, nI_clamp (by omega)]
  refine ⟨hin, ⟨p1, p2, p3, by omega, by omega⟩, ?_⟩
  have i1 : ∀ j, j ≤ 5 → inH a (a + j) := fun j hj => ⟨by omega, by omega⟩
  have i0 : inH a a := ⟨by omega, by omega⟩
  refine hQ _ ?_ ?_
  · rw [e75, e54, e29]
    exact ((((Fr.rf.sI i0 _ _).sI (i1 4 (by omega)) _ _).cI (i1 1 (by omega)) _ _ _ _).cI (i1 2 (by omega)) _ _ _ _).cI (i1 3 (by omega)) _ _ _ _
  · rw [e75, e54, e29]
    refine ⟨fun v hv => ?_, ?_, ?_, ?_, ?_⟩
    · obtain ⟨g1, g2, g3⟩ := H1 v hv
      refine ⟨?_, ?_, fun i hi => ?_⟩
      · show _ = nI (if v = w then hC h v - 1 else hC h v)
        rw [gI_cn (by omega), gI_cn (by omega), gI_cn (by omega)]
        by_cases e : v = w
        · subst e; rw [gI_eq, if_pos rfl]
        · rw [if_neg e, gI_ne (by omega), gI_ne (by omega)]; exact g1
      · rw [gI_cn (by omega), gI_cn (by omega), gI_cn (by omega), gI_ne (by omega), gI_ne (by omega)]; exact g2
      · replace hi : i < (if v = w then hC h v - 1 else hC h v) := hi
        show _ = nI (if v = w then hK h v (i + 1) else hK h v i) ∧ _ = nI (if v = w then hH h v (i + 1) else hH h v i) ∧ _ = nI (if v = w then hP h v (i + 1) else hP h v i)
        by_cases e : v = w
        · subst e
          rw [if_pos rfl] at hi
          rw [if_pos rfl, if_pos rfl, if_pos rfl]
          obtain ⟨f1, f2, f3⟩ := g3 (i + 1) (by omega)
          rw [show v * 7 + (i + 1) = v * 7 + 1 + (v * 7 + i - v * 7) by omega] at f1 f2 f3
          refine ⟨?_, ?_, ?_⟩
          · rw [gI_cn (by omega), gI_cn (by omega), gI_ci (by omega) (by omega), gI_ne (by omega), gI_ne (by omega)]; exact f1
          · rw [gI_cn (by omega), gI_ci (by omega) (by omega), gI_cn (by omega), gI_ne (by omega), gI_ne (by omega)]; exact f2
          · rw [gI_ci (by omega) (by omega), gI_cn (by omega), gI_cn (by omega), gI_ne (by omega), gI_ne (by omega)]; exact f3
        · rw [if_neg e] at hi
          rw [if_neg e, if_neg e, if_neg e]
          obtain ⟨f1, f2, f3⟩ := g3 i hi
          have := (hw.1 v hv).1
          refine ⟨?_, ?_, ?_⟩
          · rw [gI_cn (by omega), gI_cn (by omega), gI_cn (by omega), gI_ne (by omega), gI_ne (by omega)]; exact f1
          · rw [gI_cn (by omega), gI_cn (by omega), gI_cn (by omega), gI_ne (by omega), gI_ne (by omega)]; exact f2
          · rw [gI_cn (by omega), gI_cn (by omega), gI_cn (by omega), gI_ne (by omega), gI_ne (by omega)]; exact f3
    · rw [gI_cn (by omega), gI_cn (by omega), gI_cn (by omega), gI_ne (by omega), gI_ne (by omega)]; exact H2
    · rw [gI_cn (by omega), gI_cn (by omega), gI_cn (by omega), gI_ne (by omega), gI_ne (by omega)]; exact H3
    · rw [gI_cn (by omega), gI_cn (by omega), gI_cn (by omega), gI_ne (by omega), gI_ne (by omega)]; exact H4
    · rw [gI_cn (by omega), gI_cn (by omega), gI_cn (by omega), gI_ne (by omega), gI_eq]; rfl
/-- beams as bits -/
def bset (B b : Nat) : Nat := B ||| 2 ^ b
def bclr (B b : Nat) : Nat := B &&& (7 - 2 ^ b)
theorem bit_or : ∀ B, B < 8 → ∀ b, b < 3 → (nI B ||| ((1 : Int32) <<< (nI b &&& 31))) = nI (bset B b) := by decide +kernel
theorem bit_cl : ∀ B, B < 8 → ∀ b, b < 3 → (nI B &&& (((1 : Int32) <<< (nI b &&& 31)) ^^^ (-1))) = nI (bclr B b) := by decide +kernel
theorem bit_at : ∀ B, B < 8 → ∀ b, b < 3 → ((((nI B) >>> (nI b &&& 31)) &&& 1 = (1 : Int32)) ↔ B.testBit b = true) := by decide +kernel
theorem bset_lt : ∀ B, B < 8 → ∀ b, b < 3 → bset B b < 8 := by decide +kernel
theorem bclr_lt : ∀ B, B < 8 → ∀ b, b < 3 → bclr B b < 8 := by decide +kernel
theorem s_layBeam {σ : St} {a : Nat} {h : MH} (H : Hs σ a h) (hw : Wf h) {b : Nat} (h3 : b < 3) (is : Bool) {Q : St → Prop} (hQ : ∀ τ, Fr (inH a) σ τ → Hs τ a (hbm h (if is then bset (hB h) b else bclr (hB h) b)) → Q τ) : P_X0_layBeam a (nI b) is σ Q := by
  have hb := hw.2.1
  obtain ⟨H1, H2, H3, H4, H5⟩ := H
  have i0 : inH a a := ⟨by omega, by omega⟩
  have key : ∀ B, Hs (sI σ a 5 (nI B)) a (hbm h B) := by
    intro B
    refine ⟨fun v hv => ?_, ?_, ?_, ?_, ?_⟩
    · obtain ⟨g1, g2, g3⟩ := H1 v hv
      refine ⟨?_, ?_, fun i hi => ?_⟩
      · rw [gI_ne (by omega)]; exact g1
      · rw [gI_ne (by omega)]; exact g2
      · obtain ⟨f1, f2, f3⟩ := g3 i hi
        exact ⟨by rw [gI_ne (by omega)]; exact f1, by rw [gI_ne (by omega)]; exact f2, by rw [gI_ne (by omega)]; exact f3⟩
    · rw [gI_eq]; rfl
    · rw [gI_ne (by omega)]; exact H3
    · rw [gI_ne (by omega)]; exact H4
    · rw [gI_ne (by omega)]; exact H5
  unfold P_X0_layBeam
  rw [H2, bit_or _ hb _ h3, bit_cl _ hb _ h3]
  refine ⟨fun z => ?_, fun z => ?_⟩
  · subst z; exact hQ _ (Fr.rf.sI i0 _ _) (key _)
  · subst z; exact hQ _ (Fr.rf.sI i0 _ _) (key _)
