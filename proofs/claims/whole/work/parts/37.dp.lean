/-! HOW MANY ROWS LEAD TO A STAND -/
def s4 (c : Nat → Nat) : Nat := c 0 + c 1 + c 2 + c 3
theorem s4_congr {c d : Nat → Nat} (e : ∀ w, w < 4 → c w = d w) : s4 c = s4 d := by
  unfold s4; rw [e 0 (by omega), e 1 (by omega), e 2 (by omega), e 3 (by omega)]
theorem s4_add {c d : Nat → Nat} {v x : Nat} (h4 : v < 4) (hv : d v = c v + x) (e : ∀ w, w < 4 → w ≠ v → d w = c w) : s4 d = s4 c + x := by
  unfold s4
  rcases w4 h4 with rfl | rfl | rfl | rfl
  · have a := e 1 (by omega) (by omega); have b := e 2 (by omega) (by omega); have c := e 3 (by omega) (by omega); omega
  · have a := e 0 (by omega) (by omega); have b := e 2 (by omega) (by omega); have c := e 3 (by omega) (by omega); omega
  · have a := e 0 (by omega) (by omega); have b := e 1 (by omega) (by omega); have c := e 3 (by omega) (by omega); omega
  · have a := e 0 (by omega) (by omega); have b := e 1 (by omega) (by omega); have c := e 2 (by omega) (by omega); omega
theorem s4_zero {c : Nat → Nat} (e : ∀ w, w < 4 → c w = 0) : s4 c = 0 := by
  unfold s4; rw [e 0 (by omega), e 1 (by omega), e 2 (by omega), e 3 (by omega)]
theorem s4_le {c : Nat → Nat} {b : Nat} (e : ∀ w, w < 4 → c w ≤ b) : s4 c ≤ 4 * b := by
  have h0 := e 0 (by omega); have h1 := e 1 (by omega); have h2 := e 2 (by omega); have h3 := e 3 (by omega)
  unfold s4; omega
theorem s4_pos {c : Nat → Nat} : 0 < s4 c ↔ ∃ w, w < 4 ∧ 0 < c w := by
  constructor
  · intro z
    by_cases e : ∃ w, w < 4 ∧ 0 < c w
    · exact e
    · rw [s4_zero (fun w h4 => by by_cases z : c w = 0; exact z; exact absurd ⟨w, h4, by omega⟩ e)] at z; omega
  · rintro ⟨w, h4, z⟩
    unfold s4
    rcases w4 h4 with rfl | rfl | rfl | rfl <;> omega
/-- a pull out of wall w in stand u, the stand behind it being looked at later -/
def ed (h : MH) (ok : Nat → Nat → Bool) (u w : Nat) : Bool := prB h u && gs h u w && ok u w
theorem ed_iff {h : MH} {ok : Nat → Nat → Bool} {u w : Nat} : ed h ok u w = true ↔ prB h u = true ∧ gs h u w = true ∧ ok u w = true := by
  unfold ed; rw [Bool.and_eq_true, Bool.and_eq_true]; exact and_assoc
theorem gs_lf {h : MH} {u w : Nat} (e : gs h u w = true) : 0 < lf u w := by
  unfold gs at e; rw [Bool.and_eq_true, decide_eq_true_eq] at e; exact e.1
theorem ed_pr {h : MH} {ok : Nat → Nat → Bool} {u w : Nat} (e : ed h ok u w = true) : prB h u = true := (ed_iff.mp e).1
theorem ed_lf {h : MH} {ok : Nat → Nat → Bool} {u w : Nat} (e : ed h ok u w = true) : 0 < lf u w := gs_lf (ed_iff.mp e).2.1
theorem ed_le {h : MH} {ok : Nat → Nat → Bool} {u w : Nat} (e : ed h ok u w = true) : u ≤ now h := prB_le (ed_pr e)
theorem ed_8 {h : MH} {ok : Nat → Nat → Bool} {u w : Nat} (h4 : w < 4) (e : ed h ok u w = true) : 8 ^ w ≤ u := (lf_sub (prB_iff.mp (ed_pr e)).1 h4 (ed_lf e) (v := 0) (by omega)).1
theorem ed_dn {h : MH} {ok : Nat → Nat → Bool} {s w : Nat} (h4 : w < 4) (e : ed h ok (s + 8 ^ w) w = true) : prB h s = true := by
  have := prB_sub (ed_pr e) h4 (ed_lf e)
  rwa [Nat.add_sub_cancel] at this
theorem ed_stn {h : MH} {ok : Nat → Nat → Bool} {s w : Nat} (h4 : w < 4) (e : ed h ok (s + 8 ^ w) w = true) : stn (s + 8 ^ w) = stn s + 1 := by
  have := stn_sub (prB_iff.mp (ed_pr e)).1 h4 (ed_lf e)
  rw [Nat.add_sub_cancel] at this; exact this.symm
def Vf (h : MH) (ok : Nat → Nat → Bool) : Nat → Nat → Nat
  | 0, _ => 0
  | n + 1, s => if s = now h then 1 else if sf h s = true then s4 (fun w => if ed h ok (s + 8 ^ w) w = true then Vf h ok n (s + 8 ^ w) else 0) else 0
/-- the rows that lead to s -/
def V (h : MH) (ok : Nat → Nat → Bool) (s : Nat) : Nat := Vf h ok (now h + 1) s
theorem Vf_st {h : MH} {ok : Nat → Nat → Bool} : ∀ n m s, now h - s < n → now h - s < m → Vf h ok n s = Vf h ok m s := by
  intro n
  induction n with
  | zero => intro m s hn; omega
  | succ n ih =>
    intro m s hn hm
    cases m with
    | zero => omega
    | succ m =>
      simp only [Vf]
      split
      · rfl
      · split
        · refine s4_congr (fun w h4 => ?_)
          split
          · rename_i e
            have h1 := ed_le e
            have h2 := p8_pos w
            exact ih m _ (by omega) (by omega)
          · rfl
        · rfl
theorem V_eq {h : MH} {ok : Nat → Nat → Bool} (s : Nat) : V h ok s = if s = now h then 1 else if sf h s = true then s4 (fun w => if ed h ok (s + 8 ^ w) w = true then V h ok (s + 8 ^ w) else 0) else 0 := by
  show Vf h ok (now h + 1) s = _
  simp only [Vf]
  split
  · rfl
  · split
    · refine s4_congr (fun w h4 => ?_)
      split
      · rename_i e
        have h1 := ed_le e
        have h2 := p8_pos w
        exact Vf_st _ _ _ (by omega) (by omega)
      · rfl
    · rfl
/-- what has come to a stand when its turn comes -/
def Bv (h : MH) (ok : Nat → Nat → Bool) (s : Nat) : Nat := (if s = now h then 1 else 0) + s4 (fun w => if ed h ok (s + 8 ^ w) w = true then V h ok (s + 8 ^ w) else 0)
theorem Bv_now {h : MH} {ok : Nat → Nat → Bool} : Bv h ok (now h) = 1 := by
  unfold Bv
  rw [if_pos rfl, s4_zero (fun w h4 => ?_)]
  rw [if_neg (fun e => ?_)]
  have h1 := ed_le e
  have h2 := p8_pos w
  omega
theorem V_B {h : MH} {ok : Nat → Nat → Bool} (s : Nat) : V h ok s = if s = now h ∨ sf h s = true then Bv h ok s else 0 := by
  rw [V_eq]
  by_cases e : s = now h
  · rw [if_pos e, if_pos (Or.inl e), e, Bv_now]
  · rw [if_neg e]
    unfold Bv
    rw [if_neg e, Nat.zero_add]
    by_cases e2 : sf h s = true
    · rw [if_pos e2, if_pos (Or.inr e2)]
    · rw [if_neg e2, if_neg (by rintro (z | z); exact e z; exact e2 z)]
theorem B_pr {h : MH} {ok : Nat → Nat → Bool} (hw : Wf h) {s : Nat} (z : 0 < Bv h ok s) : prB h s = true := by
  unfold Bv at z
  by_cases e : s = now h
  · rw [e]; exact prB_now hw
  · rw [if_neg e, Nat.zero_add] at z
    obtain ⟨w, h4, y⟩ := s4_pos.mp z
    by_cases e2 : ed h ok (s + 8 ^ w) w = true
    · exact ed_dn h4 e2
    · rw [if_neg e2] at y; omega
theorem V_leB {h : MH} {ok : Nat → Nat → Bool} (s : Nat) : V h ok s ≤ Bv h ok s := by
  rw [V_B]; split <;> omega
theorem V_pr {h : MH} {ok : Nat → Nat → Bool} (hw : Wf h) {s : Nat} (z : 0 < V h ok s) : prB h s = true := B_pr (ok := ok) hw (Nat.lt_of_lt_of_le z (V_leB s))
theorem V_sf {h : MH} {ok : Nat → Nat → Bool} {s : Nat} (z : 0 < V h ok s) : s = now h ∨ sf h s = true := by
  rw [V_B] at z
  by_cases e : s = now h ∨ sf h s = true
  · exact e
  · rw [if_neg e] at z; omega
theorem Vf_le {h : MH} {ok : Nat → Nat → Bool} (hw : Wf h) : ∀ n s, Vf h ok n s ≤ 4 ^ (stn (now h) - stn s) := by
  intro n
  induction n with
  | zero => intro s; simp [Vf]
  | succ n ih =>
    intro s
    have p4 : ∀ k : Nat, 0 < 4 ^ k := fun k => Nat.pow_pos (by omega)
    simp only [Vf]
    split
    · exact p4 _
    · split
      · by_cases c : stn s < stn (now h)
        · have e : stn (now h) - stn s = (stn (now h) - stn s - 1) + 1 := by omega
          have key := s4_le (c := fun w => if ed h ok (s + 8 ^ w) w = true then Vf h ok n (s + 8 ^ w) else 0) (b := 4 ^ (stn (now h) - stn s - 1)) (fun w h4 => by
            show (if ed h ok (s + 8 ^ w) w = true then Vf h ok n (s + 8 ^ w) else 0) ≤ _
            split
            · rename_i e2
              have h1 := ih (s + 8 ^ w)
              rw [ed_stn h4 e2] at h1
              rw [show stn (now h) - stn s - 1 = stn (now h) - (stn s + 1) by omega]; exact h1
            · exact Nat.zero_le _)
          rw [e, Nat.pow_succ, Nat.mul_comm]
          exact key
        · rw [s4_zero (fun w h4 => ?_)]
          · exact Nat.zero_le _
          · rw [if_neg (fun e2 => ?_)]
            have h1 := ed_stn h4 e2
            have h2 := stn_lt hw (ed_pr e2)
            omega
      · exact Nat.zero_le _
theorem V_le {h : MH} {ok : Nat → Nat → Bool} (hw : Wf h) (s : Nat) : V h ok s ≤ 2 ^ 56 := by
  refine Nat.le_trans (Vf_le hw _ s) ?_
  rw [show (2 : Nat) ^ 56 = 4 ^ 28 by decide]
  exact Nat.pow_le_pow_right (by omega) (by have := stn_le (now h); omega)
theorem V_lt {h : MH} {ok : Nat → Nat → Bool} (hw : Wf h) (s : Nat) : V h ok s < 2 ^ 63 := by
  have := V_le (ok := ok) hw s; omega
theorem B_lt {h : MH} {ok : Nat → Nat → Bool} (hw : Wf h) (s : Nat) : Bv h ok s < 2 ^ 63 := by
  have key := s4_le (c := fun w => if ed h ok (s + 8 ^ w) w = true then V h ok (s + 8 ^ w) else 0) (b := 2 ^ 56) (fun w h4 => by
    show (if ed h ok (s + 8 ^ w) w = true then V h ok (s + 8 ^ w) else 0) ≤ _
    split
    · exact V_le hw _
    · exact Nat.zero_le _)
  unfold Bv
  split <;> omega
theorem addc {a b c : Nat} (e : b = c) : a + b = a + c := by rw [e]
/-- what has come to stand s when the stands above a are done, and of a the pulls out of the walls below v -/
def Iv (h : MH) (ok : Nat → Nat → Bool) (a v s : Nat) : Nat := (if s = now h then 1 else 0) + s4 (fun w => if ed h ok (s + 8 ^ w) w = true ∧ (a < s + 8 ^ w ∨ (a = s + 8 ^ w ∧ w < v)) then V h ok (s + 8 ^ w) else 0)
theorem Iv_top {h : MH} {ok : Nat → Nat → Bool} (s : Nat) : Iv h ok (now h + 1) 4 s = if s = now h then 1 else 0 := by
  unfold Iv
  rw [s4_zero (fun w h4 => ?_), Nat.add_zero]
  rw [if_neg (fun e => ?_)]
  have h1 := ed_le e.1
  omega
theorem Iv_at {h : MH} {ok : Nat → Nat → Bool} (a : Nat) : Iv h ok (a + 1) 4 a = Bv h ok a := by
  unfold Iv Bv
  refine addc ?_
  refine s4_congr (fun w h4 => ?_)
  have h2 := p8_pos w
  by_cases e : ed h ok (a + 8 ^ w) w = true
  · rw [if_pos ⟨e, by omega⟩, if_pos e]
  · rw [if_neg (fun z => e z.1), if_neg e]
theorem Iv_nx {h : MH} {ok : Nat → Nat → Bool} (a s : Nat) : Iv h ok (a + 1) 4 s = Iv h ok a 0 s := by
  unfold Iv
  refine addc ?_
  refine s4_congr (fun w h4 => ?_)
  by_cases e : ed h ok (s + 8 ^ w) w = true ∧ (a < s + 8 ^ w ∨ (a = s + 8 ^ w ∧ w < 0))
  · rw [if_pos e, if_pos ⟨e.1, by have := e.2; omega⟩]
  · rw [if_neg e, if_neg (fun z => e ⟨z.1, by have := z.2; omega⟩)]
theorem Iv_skip {h : MH} {ok : Nat → Nat → Bool} {a v : Nat} (z : ed h ok a v = false ∨ V h ok a = 0) (s : Nat) : Iv h ok a (v + 1) s = Iv h ok a v s := by
  unfold Iv
  refine addc ?_
  refine s4_congr (fun w h4 => ?_)
  by_cases e : a = s + 8 ^ w ∧ w = v
  · obtain ⟨e1, e2⟩ := e
    subst e2
    rw [if_neg (c := _ ∧ (a < s + 8 ^ w ∨ (a = s + 8 ^ w ∧ w < w))) (fun y => by have := y.2; omega)]
    split
    · rename_i y
      rw [← e1] at y ⊢
      rcases z with z | z
      · rw [z] at y; exact absurd y.1 (by decide)
      · exact z
    · rfl
  · by_cases y : ed h ok (s + 8 ^ w) w = true ∧ (a < s + 8 ^ w ∨ (a = s + 8 ^ w ∧ w < v))
    · rw [if_pos y, if_pos ⟨y.1, by have := y.2; omega⟩]
    · rw [if_neg y, if_neg (fun x => y ⟨x.1, by have := x.2; omega⟩)]
theorem Iv_oth {h : MH} {ok : Nat → Nat → Bool} {a v s : Nat} (z : s + 8 ^ v ≠ a) : Iv h ok a (v + 1) s = Iv h ok a v s := by
  unfold Iv
  refine addc ?_
  refine s4_congr (fun w h4 => ?_)
  by_cases y : ed h ok (s + 8 ^ w) w = true ∧ (a < s + 8 ^ w ∨ (a = s + 8 ^ w ∧ w < v))
  · rw [if_pos y, if_pos ⟨y.1, by have := y.2; omega⟩]
  · rw [if_neg y, if_neg (fun x => y ⟨x.1, ?_⟩)]
    rcases x.2 with q | q
    · exact Or.inl q
    · by_cases e : w = v
      · subst e; omega
      · exact Or.inr ⟨q.1, by omega⟩
theorem Iv_push {h : MH} {ok : Nat → Nat → Bool} {a v : Nat} (h4 : v < 4) (z : ed h ok a v = true) : Iv h ok a (v + 1) (a - 8 ^ v) = Iv h ok a v (a - 8 ^ v) + V h ok a := by
  have h8 := ed_8 h4 z
  have ea : a - 8 ^ v + 8 ^ v = a := Nat.sub_add_cancel h8
  unfold Iv
  rw [Nat.add_assoc]
  refine addc ?_
  refine s4_add h4 ?_ (fun w hw4 hne => ?_)
  · show (if _ then _ else _) = (if _ then _ else _) + _
    rw [ea, if_pos ⟨z, Or.inr ⟨rfl, by omega⟩⟩, if_neg (fun y => by have := y.2; omega), Nat.zero_add]
  · show (if _ then _ else _) = (if _ then _ else _)
    by_cases y : ed h ok (a - 8 ^ v + 8 ^ w) w = true ∧ (a < a - 8 ^ v + 8 ^ w ∨ (a = a - 8 ^ v + 8 ^ w ∧ w < v))
    · rw [if_pos y, if_pos ⟨y.1, by have := y.2; omega⟩]
    · rw [if_neg y, if_neg (fun x => y ⟨x.1, by have := x.2; omega⟩)]
/-- an array of longs, all stands from k on being done -/
def AR (σ : St) (c : Nat) (h : MH) (ok : Nat → Nat → Bool) (k : Nat) : Prop := (∀ s, k ≤ s → s ≤ now h → gL σ c s = lN (V h ok s)) ∧ ∀ s, s < k → gL σ c s = lN (Iv h ok k 4 s)
def AI (σ : St) (c : Nat) (h : MH) (ok : Nat → Nat → Bool) (a v : Nat) : Prop := (∀ s, a ≤ s → s ≤ now h → gL σ c s = lN (V h ok s)) ∧ ∀ s, s < a → gL σ c s = lN (Iv h ok a v s)
theorem AI_push {σ : St} {c : Nat} {h : MH} {ok : Nat → Nat → Bool} {a v : Nat} (A : AI σ c h ok a v) (h4 : v < 4) (z : ed h ok a v = true) : AI (sL σ c (a - 8 ^ v) (gL σ c (a - 8 ^ v) + gL σ c a)) c h ok a (v + 1) := by
  have h8 := ed_8 h4 z
  have hp := p8_pos v
  have hl := ed_le z
  refine ⟨fun s hs hn => ?_, fun s hs => ?_⟩
  · rw [gL_ne (by omega)]; exact A.1 s hs hn
  · by_cases e : s = a - 8 ^ v
    · rw [e, gL_eq, A.2 _ (by omega), A.1 a (by omega) hl, lN_add, Iv_push h4 z]
    · rw [gL_ne (by omega), A.2 s hs, Iv_oth (by omega)]
theorem AI_skip {σ : St} {c : Nat} {h : MH} {ok : Nat → Nat → Bool} {a v : Nat} (A : AI σ c h ok a v) (z : ed h ok a v = false) : AI σ c h ok a (v + 1) :=
  ⟨A.1, fun s hs => by rw [A.2 s hs, Iv_skip (Or.inl z)]⟩
theorem AI_end {σ : St} {c : Nat} {h : MH} {ok : Nat → Nat → Bool} {a : Nat} (A : AI σ c h ok a 4) : AR σ c h ok a := A
theorem AI_none {σ : St} {c : Nat} {h : MH} {ok : Nat → Nat → Bool} {a : Nat} (A : AI σ c h ok a 0) (z : V h ok a = 0) : AR σ c h ok a :=
  ⟨A.1, fun s hs => by rw [A.2 s hs, Iv_skip (v := 3) (Or.inr z), Iv_skip (v := 2) (Or.inr z), Iv_skip (v := 1) (Or.inr z), Iv_skip (v := 0) (Or.inr z)]⟩
theorem AR_at {σ : St} {c : Nat} {h : MH} {ok : Nat → Nat → Bool} {a : Nat} (A : AR σ c h ok (a + 1)) : gL σ c a = lN (Bv h ok a) := by
  rw [A.2 a (by omega), Iv_at]
theorem AR_in {σ : St} {c : Nat} {h : MH} {ok : Nat → Nat → Bool} {a : Nat} (A : AR σ c h ok (a + 1)) (z : V h ok a = Bv h ok a) : AI σ c h ok a 0 := by
  refine ⟨fun s hs hn => ?_, fun s hs => ?_⟩
  · by_cases e : s = a
    · rw [e, AR_at A, z]
    · exact A.1 s (by omega) hn
  · rw [A.2 s (by omega), Iv_nx]
theorem AR_un {σ : St} {c : Nat} {h : MH} {ok : Nat → Nat → Bool} {a : Nat} (A : AR σ c h ok (a + 1)) (z : V h ok a = 0) : AI (sL σ c a 0) c h ok a 0 := by
  refine ⟨fun s hs hn => ?_, fun s hs => ?_⟩
  · by_cases e : s = a
    · rw [e, gL_eq, z]; rfl
    · rw [gL_ne (by omega)]; exact A.1 s (by omega) hn
  · rw [gL_ne (by omega), A.2 s (by omega), Iv_nx]
theorem AR_0 {σ : St} {c : Nat} {h : MH} {ok : Nat → Nat → Bool} (hz : ∀ s, s ≤ now h → gL σ c s = if s = now h then 1 else 0) : AR σ c h ok (now h + 1) := by
  refine ⟨fun s hs hn => by omega, fun s hs => ?_⟩
  rw [hz s (by omega), Iv_top]
  split <;> rfl
/-- how many stands below n can be -/
def cnt (h : MH) (ok : Nat → Nat → Bool) : Nat → Nat
  | 0 => 0
  | n + 1 => cnt h ok n + if 0 < V h ok n then 1 else 0
theorem cnt_le {h : MH} {ok : Nat → Nat → Bool} (n : Nat) : cnt h ok n ≤ n := by
  induction n with
  | zero => simp [cnt]
  | succ n ih => simp only [cnt]; split <;> omega
