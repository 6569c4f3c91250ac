/-! THE TEXT OF A HOUSE, told without a machine: whether it stands, the house, where the next token begins -/
abbrev R3 : Type := Bool × MH × Nat
def pPr (n : Nat) (bs : Nat → Nat) (k : Nat) (h : MH) (w x p : Nat) : R3 := if isW n bs p 7 = true then (if isNum n bs (nx n bs p) 0 999 = true then (true, hput h k w x (num n bs (nx n bs p)), nx n bs (nx n bs p)) else (false, h, nx n bs p)) else (true, hput h k w x 10, p)
def pHi (n : Nat) (bs : Nat → Nat) (k : Nat) (h : MH) (w p : Nat) : R3 := if isW n bs p 6 = true then (if isNum n bs (nx n bs p) 1 30 = true then pPr n bs k h w (num n bs (nx n bs p)) (nx n bs (nx n bs p)) else (false, h, nx n bs p)) else pPr n bs k h w 5 p
def pSt (n : Nat) (bs : Nat → Nat) (k : Nat) (h : MH) (p : Nat) : R3 := if isNum n bs p 0 3 = true ∧ hC h (num n bs p) < 7 then pHi n bs k h (num n bs p) (nx n bs p) else (false, h, p)
def pBm (n : Nat) (bs : Nat → Nat) (h : MH) (p : Nat) : R3 := if isNum n bs p 0 2 = true then (if isW n bs (nx n bs p) 9 = true then (true, hbm h (bset (hB h) (num n bs p)), nx n bs (nx n bs p)) else if isW n bs (nx n bs p) 10 = true then (true, hbm h (bclr (hB h) (num n bs p)), nx n bs (nx n bs p)) else (false, h, nx n bs p)) else (false, h, p)
def pWe (n : Nat) (bs : Nat → Nat) (h : MH) (p : Nat) : R3 := if isNum n bs p 0 3 = true then (if isNum n bs (nx n bs p) 0 20 = true then (true, hwe h (num n bs p) (num n bs (nx n bs p)), nx n bs (nx n bs p)) else (false, h, nx n bs p)) else (false, h, p)
def pSl (n : Nat) (bs : Nat → Nat) (h : MH) (p : Nat) : R3 := if isNum n bs p 0 99 = true then (true, hsl h (num n bs p), nx n bs p) else (false, h, p)
def pPu (n : Nat) (bs : Nat → Nat) : Nat → MH → Nat → R3
  | 0, h, p => (true, h, p)
  | f + 1, h, p => if tkK n bs p = 2 then (if isNum n bs p 0 3 = true ∧ cpB h (num n bs p) = true then pPu n bs f (htake h (num n bs p)) (nx n bs p) else (false, h, p)) else (true, h, p)
def pPl (n : Nat) (bs : Nat → Nat) (h : MH) (p : Nat) : R3 := if tkK n bs p = 2 then pPu n bs (n - p) h p else (false, h, p)
def pIt (n : Nat) (bs : Nat → Nat) (h : MH) (p : Nat) : R3 :=
  if isW n bs p 5 = true then pSt n bs 0 h (nx n bs p) else if isW n bs p 0 = true then pSt n bs 1 h (nx n bs p) else if isW n bs p 1 = true then pSt n bs 2 h (nx n bs p)
  else if isW n bs p 2 = true then pSt n bs 3 h (nx n bs p) else if isW n bs p 3 = true then pSt n bs 4 h (nx n bs p) else if isW n bs p 4 = true then pSt n bs 5 h (nx n bs p)
  else if isW n bs p 8 = true then pBm n bs h (nx n bs p) else if isW n bs p 11 = true then pWe n bs h (nx n bs p) else if isW n bs p 12 = true then pSl n bs h (nx n bs p)
  else if isW n bs p 13 = true then pPl n bs h (nx n bs p) else (false, h, p)
def pHo (n : Nat) (bs : Nat → Nat) : Nat → Nat → MH → Nat → Bool × Nat × MH × Nat
  | 0, k, h, p => (false, k, h, p)
  | f + 1, k, h, p => if (pIt n bs h p).1 = true then (if tkK n bs (pIt n bs h p).2.2 = 0 then (true, k, (pIt n bs h p).2.1, (pIt n bs h p).2.2) else if tkK n bs (pIt n bs h p).2.2 = 3 then pHo n bs f (k + 1) (pIt n bs h p).2.1 (nx n bs (pIt n bs h p).2.2) else (false, k, (pIt n bs h p).2.1, (pIt n bs h p).2.2)) else (false, k, (pIt n bs h p).2.1, (pIt n bs h p).2.2)
/-- what holds of such a telling -/
def Ok (n p : Nat) (r : R3) : Prop := p ≤ r.2.2 ∧ r.2.2 ≤ n ∧ (r.1 = true → Wf r.2.1 ∧ hN r.2.1 ≤ 999)
theorem Ok.no {n p q : Nat} {h : MH} (h1 : p ≤ q) (h2 : q ≤ n) : Ok n p (false, h, q) := ⟨h1, h2, fun z => absurd (show (false : Bool) = true from z) (by decide)⟩
theorem Ok.yes {n p q : Nat} {h : MH} (h1 : p ≤ q) (h2 : q ≤ n) (hw : Wf h) (hn : hN h ≤ 999) : Ok n p (true, h, q) := ⟨h1, h2, fun _ => ⟨hw, hn⟩⟩
theorem Ok.le {n p q : Nat} {r : R3} (h : Ok n q r) (h1 : p ≤ q) : Ok n p r := ⟨Nat.le_trans h1 h.1, h.2⟩
theorem nx_p {n : Nat} {bs : Nat → Nat} {p : Nat} (hp : p ≤ n) : p ≤ nx n bs p := Nat.le_trans (tkE_ge hp) (nx_ge hp)
theorem num_in {n : Nat} {bs : Nat → Nat} {p a b : Nat} (c : isNum n bs p a b = true) : a ≤ num n bs p ∧ num n bs p ≤ b := (isNum_iff.mp c).2
theorem num_k {n : Nat} {bs : Nat → Nat} {p a b : Nat} (c : isNum n bs p a b = true) : tkK n bs p = 2 := (isNum_iff.mp c).1
theorem tk_lt {n : Nat} {bs : Nat → Nat} {p : Nat} (c : tkK n bs p ≠ 0) : p < n := by
  by_cases z : n ≤ p
  · exact absurd (tkK_0.mpr z) c
  · omega
theorem ok_pPr {n : Nat} {bs : Nat → Nat} {k : Nat} {h : MH} {w x p : Nat} (hp : p ≤ n) (hw : Wf h) (hn : hN h ≤ 999) (hk : k < 6) (hc : hC h w < 7) (hx : x ≤ 30) : Ok n p (pPr n bs k h w x p) := by
  unfold pPr
  have a := nx_p (bs := bs) hp
  have b := nx_le (bs := bs) hp
  have a2 := nx_p (bs := bs) b
  have b2 := nx_le (bs := bs) b
  split
  · split
    · rename_i _ c
      exact Ok.yes (by omega) b2 (wf_put hw hc hk hx (num_in c).2) hn
    · exact Ok.no a b
  · exact Ok.yes (Nat.le_refl _) hp (wf_put hw hc hk hx (by omega)) hn
theorem ok_pHi {n : Nat} {bs : Nat → Nat} {k : Nat} {h : MH} {w p : Nat} (hp : p ≤ n) (hw : Wf h) (hn : hN h ≤ 999) (hk : k < 6) (hc : hC h w < 7) : Ok n p (pHi n bs k h w p) := by
  unfold pHi
  have a := nx_p (bs := bs) hp
  have b := nx_le (bs := bs) hp
  have a2 := nx_p (bs := bs) b
  have b2 := nx_le (bs := bs) b
  split
  · split
    · rename_i _ c
      exact (ok_pPr b2 hw hn hk hc (num_in c).2).le (by omega)
    · exact Ok.no a b
  · exact ok_pPr hp hw hn hk hc (by omega)
theorem ok_pSt {n : Nat} {bs : Nat → Nat} {k : Nat} {h : MH} {p : Nat} (hp : p ≤ n) (hw : Wf h) (hn : hN h ≤ 999) (hk : k < 6) : Ok n p (pSt n bs k h p) := by
  unfold pSt
  split
  · rename_i c
    exact (ok_pHi (nx_le hp) hw hn hk c.2).le (nx_p hp)
  · exact Ok.no (Nat.le_refl _) hp
theorem ok_pBm {n : Nat} {bs : Nat → Nat} {h : MH} {p : Nat} (hp : p ≤ n) (hw : Wf h) (hn : hN h ≤ 999) : Ok n p (pBm n bs h p) := by
  unfold pBm
  have a := nx_p (bs := bs) hp
  have b := nx_le (bs := bs) hp
  have a2 := nx_p (bs := bs) b
  have b2 := nx_le (bs := bs) b
  split
  · rename_i c
    have c2 := (num_in c).2
    split
    · exact Ok.yes (by omega) b2 (wf_bm hw (bset_lt _ hw.2.1 _ (by omega))) hn
    · split
      · exact Ok.yes (by omega) b2 (wf_bm hw (bclr_lt _ hw.2.1 _ (by omega))) hn
      · exact Ok.no a b
  · exact Ok.no (Nat.le_refl _) hp
theorem ok_pWe {n : Nat} {bs : Nat → Nat} {h : MH} {p : Nat} (hp : p ≤ n) (hw : Wf h) (hn : hN h ≤ 999) : Ok n p (pWe n bs h p) := by
  unfold pWe
  have a := nx_p (bs := bs) hp
  have b := nx_le (bs := bs) hp
  have a2 := nx_p (bs := bs) b
  have b2 := nx_le (bs := bs) b
  split
  · split
    · rename_i _ c
      exact Ok.yes (by omega) b2 (wf_we hw (num_in c).2) hn
    · exact Ok.no a b
  · exact Ok.no (Nat.le_refl _) hp
theorem ok_pSl {n : Nat} {bs : Nat → Nat} {h : MH} {p : Nat} (hp : p ≤ n) (hw : Wf h) (hn : hN h ≤ 999) : Ok n p (pSl n bs h p) := by
  unfold pSl
  split
  · rename_i c
    exact Ok.yes (nx_p hp) (nx_le hp) (wf_sl hw (by have := (num_in c).2; omega)) hn
  · exact Ok.no (Nat.le_refl _) hp
theorem ok_pPu {n : Nat} {bs : Nat → Nat} : ∀ f (h : MH) p, p ≤ n → Wf h → hN h ≤ 999 → Ok n p (pPu n bs f h p) := by
  intro f
  induction f with
  | zero => intro h p hp hw hn; exact Ok.yes (Nat.le_refl _) hp hw hn
  | succ f ih =>
    intro h p hp hw hn
    simp only [pPu]
    split
    · split
      · rename_i _ c
        have c3 := (num_in c.1).2
        exact (ih _ _ (nx_le hp) (wf_take hw (cpB_c hw (by omega) c.2)) hn).le (nx_p hp)
      · exact Ok.no (Nat.le_refl _) hp
    · exact Ok.yes (Nat.le_refl _) hp hw hn
theorem ok_pPl {n : Nat} {bs : Nat → Nat} {h : MH} {p : Nat} (hp : p ≤ n) (hw : Wf h) (hn : hN h ≤ 999) : Ok n p (pPl n bs h p) := by
  unfold pPl
  split
  · exact ok_pPu _ _ _ hp hw hn
  · exact Ok.no (Nat.le_refl _) hp
theorem isW_lt {n : Nat} {bs : Nat → Nat} {p i : Nat} (c : isW n bs p i = true) : p < n := tk_lt (by rw [(isW_iff.mp c).1]; omega)
theorem ok_pIt {n : Nat} {bs : Nat → Nat} {h : MH} {p : Nat} (hp : p ≤ n) (hw : Wf h) (hn : hN h ≤ 999) : Ok n p (pIt n bs h p) ∧ ((pIt n bs h p).1 = true → p + 1 ≤ (pIt n bs h p).2.2) := by
  have b := nx_le (bs := bs) hp
  have key : ∀ {i : Nat} {r : R3}, isW n bs p i = true → Ok n (nx n bs p) r → Ok n p r ∧ (r.1 = true → p + 1 ≤ r.2.2) := fun c o => by
    have := nx_gt (bs := bs) (isW_lt c)
    exact ⟨o.le (by omega), fun _ => Nat.le_trans this o.1⟩
  unfold pIt
  split
  · rename_i c; exact key c (ok_pSt b hw hn (by omega))
  split
  · rename_i c; exact key c (ok_pSt b hw hn (by omega))
  split
  · rename_i c; exact key c (ok_pSt b hw hn (by omega))
  split
  · rename_i c; exact key c (ok_pSt b hw hn (by omega))
  split
  · rename_i c; exact key c (ok_pSt b hw hn (by omega))
  split
  · rename_i c; exact key c (ok_pSt b hw hn (by omega))
  split
  · rename_i c; exact key c (ok_pBm b hw hn)
  split
  · rename_i c; exact key c (ok_pWe b hw hn)
  split
  · rename_i c; exact key c (ok_pSl b hw hn)
  split
  · rename_i c; exact key c (ok_pPl b hw hn)
  · exact ⟨Ok.no (Nat.le_refl _) hp, fun z => absurd (show (false : Bool) = true from z) (by decide)⟩
theorem pIt_end {n : Nat} {bs : Nat → Nat} {h : MH} {p : Nat} (hp : n ≤ p) : pIt n bs h p = (false, h, p) := by
  have no : ∀ i, ¬ isW n bs p i = true := fun i c => by have := isW_lt c; omega
  unfold pIt
  rw [if_neg (no 5), if_neg (no 0), if_neg (no 1), if_neg (no 2), if_neg (no 3), if_neg (no 4), if_neg (no 8), if_neg (no 11), if_neg (no 12), if_neg (no 13)]
