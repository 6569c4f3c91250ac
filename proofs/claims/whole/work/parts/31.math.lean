/-! THE HOUSE AS A MATHEMATICAL VALUE: stones of each wall, kinds, heights, prices, wedges; beams, slack, night, purse -/
abbrev MH : Type := (Nat → Nat) × (Nat → Nat → Nat) × (Nat → Nat → Nat) × (Nat → Nat → Nat) × (Nat → Nat) × Nat × Nat × Nat × Nat
def hC (h : MH) : Nat → Nat := h.1
def hK (h : MH) : Nat → Nat → Nat := h.2.1
def hH (h : MH) : Nat → Nat → Nat := h.2.2.1
def hP (h : MH) : Nat → Nat → Nat := h.2.2.2.1
def hW (h : MH) : Nat → Nat := h.2.2.2.2.1
def hB (h : MH) : Nat := h.2.2.2.2.2.1
def hS (h : MH) : Nat := h.2.2.2.2.2.2.1
def hN (h : MH) : Nat := h.2.2.2.2.2.2.2.1
def hU (h : MH) : Nat := h.2.2.2.2.2.2.2.2
/-- its numbers are small -/
def Wf (h : MH) : Prop := (∀ w, w < 4 → hC h w ≤ 7 ∧ hW h w ≤ 20 ∧ ∀ i, i < hC h w → hK h w i < 6 ∧ hH h w i ≤ 30 ∧ hP h w i ≤ 999) ∧ hB h < 8 ∧ hS h ≤ 200 ∧ hN h ≤ 2000 ∧ hU h ≤ 999999
def tall (h : MH) (w i : Nat) : Nat := if hK h w i = 2 then max 1 (hH h w i - hN h) else if hK h w i = 5 then max 1 (hH h w i - hN h) / 2 else hH h w i
def coin (h : MH) (w i : Nat) : Nat := if hK h w i = 1 then hP h w i + 5 else if hK h w i = 4 then 2 * (hP h w i + 5) else if hK h w i = 2 then hP h w i / 2 else if hK h w i = 5 then 0 else hP h w i
/-- the top of a wall of which k stones are left -/
def topK (h : MH) (w : Nat) : Nat → Nat
  | 0 => hW h w
  | k + 1 => topK h w k + tall h w (hC h w - (k + 1))
/-- the coin of a wall's d lowest stones -/
def outC (h : MH) (w : Nat) : Nat → Nat
  | 0 => 0
  | d + 1 => outC h w d + coin h w d
theorem tall_le {h : MH} (hw : Wf h) {w i : Nat} (h4 : w < 4) (hi : i < hC h w) : tall h w i ≤ 30 := by
  have := ((hw.1 w h4).2.2 i hi).2.1
  unfold tall
  split
  · omega
  · split <;> omega
theorem coin_le {h : MH} (hw : Wf h) {w i : Nat} (h4 : w < 4) (hi : i < hC h w) : coin h w i ≤ 2008 := by
  have := ((hw.1 w h4).2.2 i hi).2.2
  unfold coin
  repeat' split
  all_goals omega
theorem topK_le {h : MH} (hw : Wf h) {w : Nat} (h4 : w < 4) : ∀ k, k ≤ hC h w → topK h w k ≤ 20 + 30 * k := by
  intro k
  induction k with
  | zero => intro _; have := (hw.1 w h4).2.1; simp [topK]; exact this
  | succ k ih =>
    intro hk
    have h1 := ih (by omega)
    have h2 := tall_le hw h4 (i := hC h w - (k + 1)) (by omega)
    simp only [topK]; omega
theorem outC_le {h : MH} (hw : Wf h) {w : Nat} (h4 : w < 4) : ∀ d, d ≤ hC h w → outC h w d ≤ 2008 * d := by
  intro d
  induction d with
  | zero => intro _; simp [outC]
  | succ d ih =>
    intro hk
    have h1 := ih (by omega)
    have h2 := coin_le hw h4 (i := d) (by omega)
    simp only [outC]; omega
def now (h : MH) : Nat := hC h 0 + 8 * hC h 1 + 64 * hC h 2 + 512 * hC h 3
theorem now_lt {h : MH} (hw : Wf h) : now h < 4096 := by
  have h0 := (hw.1 0 (by omega)).1
  have h1 := (hw.1 1 (by omega)).1
  have h2 := (hw.1 2 (by omega)).1
  have h3 := (hw.1 3 (by omega)).1
  unfold now; omega
theorem lf_now {h : MH} (hw : Wf h) {w : Nat} (h4 : w < 4) : lf (now h) w = hC h w := by
  have h0 := (hw.1 0 (by omega)).1
  have h1 := (hw.1 1 (by omega)).1
  have h2 := (hw.1 2 (by omega)).1
  have h3 := (hw.1 3 (by omega)).1
  rcases w4 h4 with rfl | rfl | rfl | rfl <;> simp only [lf0, lf1, lf2, lf3, now] <;> omega
/-- a stand that the house has -/
def prB (h : MH) (s : Nat) : Bool := decide (s < 4096 ∧ lf s 0 ≤ hC h 0 ∧ lf s 1 ≤ hC h 1 ∧ lf s 2 ≤ hC h 2 ∧ lf s 3 ≤ hC h 3)
theorem prB_iff {h : MH} {s : Nat} : prB h s = true ↔ s < 4096 ∧ ∀ w, w < 4 → lf s w ≤ hC h w := by
  unfold prB
  rw [decide_eq_true_eq]
  constructor
  · rintro ⟨h1, a, b, c, d⟩
    refine ⟨h1, fun w h4 => ?_⟩
    rcases w4 h4 with rfl | rfl | rfl | rfl <;> assumption
  · rintro ⟨h1, h2⟩
    exact ⟨h1, h2 0 (by omega), h2 1 (by omega), h2 2 (by omega), h2 3 (by omega)⟩
theorem prB_le {h : MH} {s : Nat} (hp : prB h s = true) : s ≤ now h := by
  obtain ⟨h1, h2⟩ := prB_iff.mp hp
  have a := h2 0 (by omega)
  have b := h2 1 (by omega)
  have c := h2 2 (by omega)
  have d := h2 3 (by omega)
  rw [s_lf h1]; unfold now; omega
theorem prB_now {h : MH} (hw : Wf h) : prB h (now h) = true := prB_iff.mpr ⟨now_lt hw, fun w h4 => by rw [lf_now hw h4]; exact Nat.le_refl _⟩
theorem prB_sub {h : MH} {s w : Nat} (hp : prB h s = true) (h4 : w < 4) (hl : 0 < lf s w) : prB h (s - 8 ^ w) = true := by
  obtain ⟨h1, h2⟩ := prB_iff.mp hp
  refine prB_iff.mpr ⟨Nat.lt_of_le_of_lt (Nat.sub_le _ _) h1, fun v hv => ?_⟩
  rw [(lf_sub h1 h4 hl hv).2]
  have := h2 v hv
  split <;> omega
theorem stn_now {h : MH} (hw : Wf h) : stn (now h) = hC h 0 + hC h 1 + hC h 2 + hC h 3 := by
  unfold stn
  rw [lf_now hw (by omega), lf_now hw (by omega), lf_now hw (by omega), lf_now hw (by omega)]
theorem stn_lt {h : MH} (hw : Wf h) {s : Nat} (hp : prB h s = true) : stn s ≤ stn (now h) := by
  obtain ⟨h1, h2⟩ := prB_iff.mp hp
  have a := h2 0 (by omega)
  have b := h2 1 (by omega)
  have c := h2 2 (by omega)
  have d := h2 3 (by omega)
  rw [stn_now hw]; unfold stn; omega
theorem stn_eq {h : MH} (hw : Wf h) {s : Nat} (hp : prB h s = true) (he : stn (now h) ≤ stn s) : s = now h := by
  obtain ⟨h1, h2⟩ := prB_iff.mp hp
  have a := h2 0 (by omega)
  have b := h2 1 (by omega)
  have c := h2 2 (by omega)
  have d := h2 3 (by omega)
  rw [stn_now hw] at he
  unfold stn at he
  refine lf_ext h1 (now_lt hw) (fun w h4 => ?_)
  rw [lf_now hw h4]
  rcases w4 h4 with rfl | rfl | rfl | rfl <;> omega
/-- may a stone of kind k go, as the lowest of wall w, in stand s -/
def mgK (k w s : Nat) : Bool := if k = 1 ∨ k = 4 then decide ((w = 0 ∨ lf s (w - 1) ≤ lf s w) ∧ (3 ≤ w ∨ lf s (w + 1) ≤ lf s w)) else if k = 3 then decide (3 ≤ w ∨ lf s (w + 1) ≤ lf s w) else true
def gs (h : MH) (s w : Nat) : Bool := decide (0 < lf s w) && mgK (hK h w (hC h w - lf s w)) w s
def tp (h : MH) (s w : Nat) : Nat := topK h w (lf s w)
def dst (a b : Nat) : Nat := if a ≤ b then b - a else a - b
def dB (h : MH) (s b : Nat) : Nat := if (hB h).testBit b then dst (tp h s b) (tp h s (b + 1)) else 0
def wd (h : MH) (s : Nat) : Nat := max (max (dB h s 0) (dB h s 1)) (dB h s 2)
def sf (h : MH) (s : Nat) : Bool := decide (wd h s ≤ hS h)
theorem tp_le {h : MH} (hw : Wf h) {s w : Nat} (hp : prB h s = true) (h4 : w < 4) : tp h s w ≤ 230 := by
  have h1 := (prB_iff.mp hp).2 w h4
  have h2 := topK_le hw h4 (lf s w) h1
  have h3 := lf_lt s w
  unfold tp; omega
theorem dst_le {a b c : Nat} (ha : a ≤ c) (hb : b ≤ c) : dst a b ≤ c := by unfold dst; split <;> omega
theorem dB_le {h : MH} (hw : Wf h) {s b : Nat} (hp : prB h s = true) (h3 : b < 3) : dB h s b ≤ 230 := by
  unfold dB
  split
  · exact dst_le (tp_le hw hp (by omega)) (tp_le hw hp (by omega))
  · omega
theorem wd_le {h : MH} (hw : Wf h) {s : Nat} (hp : prB h s = true) : wd h s ≤ 230 := by
  have a := dB_le hw hp (b := 0) (by omega)
  have b := dB_le hw hp (b := 1) (by omega)
  have c := dB_le hw hp (b := 2) (by omega)
  unfold wd; omega
def pcoin (h : MH) (s : Nat) : Nat := outC h 0 (hC h 0 - lf s 0) + outC h 1 (hC h 1 - lf s 1) + outC h 2 (hC h 2 - lf s 2) + outC h 3 (hC h 3 - lf s 3)
theorem pcoin_le {h : MH} (hw : Wf h) (s : Nat) : pcoin h s ≤ 60000 := by
  have key : ∀ w, w < 4 → outC h w (hC h w - lf s w) ≤ 2008 * 7 := fun w h4 => by
    have h1 := outC_le hw h4 (hC h w - lf s w) (by omega)
    have h2 := (hw.1 w h4).1
    omega
  have a := key 0 (by omega)
  have b := key 1 (by omega)
  have c := key 2 (by omega)
  have d := key 3 (by omega)
  unfold pcoin; omega
