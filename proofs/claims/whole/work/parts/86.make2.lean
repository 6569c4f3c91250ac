/-! CONSTRUCTORS: fields, calls, ends -/
theorem wsC_set {G : Gx} : ∀ (es : List va_E) (k j : Nat) (x : va_E), (wsC G k es).set j (adO G (k + j), x) = wsC G k (es.set j x) := by
  intro es
  induction es with
  | nil => intro k j x; rfl
  | cons y es ih =>
    intro k j x
    cases j with
    | zero => rfl
    | succ j =>
      show (adO G k, y) :: (wsC G (k + 1) es).set j (adO G (k + (j + 1)), x) = (adO G k, y) :: wsC G (k + 1) (es.set j x)
      rw [← ih, show k + 1 + j = k + (j + 1) by omega]
def FfO (own : String) (c j : Nat) (ty : FieldType) : Prop := ∃ (q : vw_C) (ty0 : Nat → FieldType), clsL[c]? = some q ∧ (∀ k, k < q.2.2 → parseFieldDescriptor (q.2.1 k).2.2.1 = some (ty0 k)) ∧ (∀ a, a < q.2.2 → ∀ b, b < q.2.2 → a ≠ b → (q.2.1 a).2.1 ≠ (q.2.1 b).2.1) ∧ (q.2.1 j).2.2.2 = true ∧ (q.2.1 j).1 = own ∧ parseFieldDescriptor (q.2.1 j).2.2.1 = some ty
theorem mkE_len (G : Gx) (k cnt : Nat) : (mkE G k cnt).length = cnt := by simp [mkE]
theorem mkE_at {G : Gx} {k cnt j : Nat} (h : j < cnt) : (mkE G k cnt)[j]? = some (ceO G sg0 (k + j)) := by
  unfold mkE
  rw [List.getElem?_map, List.getElem?_range h]
  rfl
section CS
variable {cc : ByteArray} {nL : Nat} {own : String} {R : Room} {k0 cnt : Nat} {pc : Nat} {ls ls' st : List Value} {n ns : Nat} {es es1 : Gx → List va_E}
theorem C_putF {ci j idx w : Nat} {fs : Gx → List Value} {ty : FieldType} (hd : decode cc pc = .ok (.putfield idx, 3)) (hF : FdO own idx ci j) (hp : FfO own ci j ty) (hnar : ∀ a : Nat, narrow ty (.ref a) = .ref a ∧ fits ty (.ref a) = true) (hl : ∀ G, j < (fs G).length) (hw : w < 65) (hb : ∀ G, k0 + ((es1 G).length + 1) ≤ 65)
    (h : Cj cc nL own R k0 cnt (pc + 3) ls st n ns (fun G => .inr (ci, (fs G).set j (.ref (adO G w))) :: es1 G)) : Cj cc nL own R k0 cnt pc ls (.ref w :: .ref k0 :: st) n ns (fun G => .inr (ci, fs G) :: es1 G) := by
  intro p l e s m a b me c G H lo rl C I K z P S L
  obtain ⟨q, q1, q2, q3, q4⟩ := hF
  obtain ⟨q', ty0, r1, r2, r3, r4, r5, r6⟩ := hp
  cases q1.symm.trans r1
  have hbG := hb G
  have D := wsC_D K.2.1 (k := k0) (es := .inr (ci, fs G) :: es1 G) (by rw [List.length_cons]; exact hbG)
  have e2 : (Value.ref w :: Value.ref k0 :: st).map (cv G) = .ref (adO G w) :: .ref (adO G k0) :: st.map (cv G) := by rw [List.map_cons, List.map_cons, cv_ref (by omega), cv_ref (by omega)]
  rw [e2]
  refine va_putF (Ts := Tg) (C := q.1) (T := q.2.1) (N := q.2.2) (v := .ref (adO G w)) (ty := ty) C.1 C.2.1 C.2.2.2.2.2.1 q2 ty0 r2 r3 C.2.2.2.2.1 K.1 P D S 0 rfl q1 j q3 (C.2.2.2.2.2.1 _ q4) (fun _ h9 => h9) r4 I r5 r6 (hnar _).1 (hnar _).2 (hl G) hd (fun H1 lo1 P1 D1 S1 => ?_)
  exact h p l e s m a b me c G H1 lo1 rl C I K z P1 S1 L
theorem C_putI {ci j idx : Nat} {x : Int32} {fs : Gx → List Value} (hd : decode cc pc = .ok (.putfield idx, 3)) (hF : FdO own idx ci j) (hp : FpO ci j .int) (hl : ∀ G, j < (fs G).length) (hb : ∀ G, k0 + ((es1 G).length + 1) ≤ 65)
    (h : Cj cc nL own R k0 cnt (pc + 3) ls st n ns (fun G => .inr (ci, (fs G).set j (.int x)) :: es1 G)) : Cj cc nL own R k0 cnt pc ls (.int x :: .ref k0 :: st) n ns (fun G => .inr (ci, fs G) :: es1 G) := by
  intro p l e s m a b me c G H lo rl C I K z P S L
  obtain ⟨q, q1, q2, q3, q4⟩ := hF
  obtain ⟨q', ty0, r1, r2, r3, r4, r5⟩ := hp
  cases q1.symm.trans r1
  have hbG := hb G
  have D := wsC_D K.2.1 (k := k0) (es := .inr (ci, fs G) :: es1 G) (by rw [List.length_cons]; exact hbG)
  have e2 : (Value.int x :: Value.ref k0 :: st).map (cv G) = .int x :: .ref (adO G k0) :: st.map (cv G) := by rw [List.map_cons, List.map_cons, cv_ref (k := k0) (by omega)]; rfl
  rw [e2]
  refine va_put (Ts := Tg) (C := q.1) (T := q.2.1) (N := q.2.2) (v := .int x) (ty := .int) C.1 C.2.1 C.2.2.2.2.2.1 q2 ty0 r2 r3 C.2.2.2.2.1 K.1 P D S 0 rfl q1 j q3 (C.2.2.2.2.2.1 _ q4) (fun _ h9 => h9) r4 r5 rfl rfl (hl G) hd (fun H1 lo1 P1 D1 S1 => ?_)
  exact h p l e s m a b me c G H1 lo1 rl C I K z P1 S1 L
theorem C_getR {ci j idx w : Nat} {fs : Gx → List Value} (hd : decode cc pc = .ok (.getfield idx, 3)) (hF : FdO own idx ci j) (hk : k0 < 65) (hw : w < 65) (hv : ∀ G, (fs G)[j]? = some (.ref (adO G w)))
    (h : Cj cc nL own R k0 cnt (pc + 3) ls (.ref w :: st) n ns (fun G => .inr (ci, fs G) :: es1 G)) : Cj cc nL own R k0 cnt pc ls (.ref k0 :: st) n ns (fun G => .inr (ci, fs G) :: es1 G) := by
  intro p l e s m a b me c G H lo rl C I K z P S L
  obtain ⟨q, q1, q2, q3, q4⟩ := hF
  rw [List.map_cons, cv_ref (by omega)]
  refine va_get (Ts := Tg) (C := q.1) (T := q.2.1) (N := q.2.2) (v := .ref (adO G w)) C.1 C.2.1 C.2.2.2.2.2.1 q2 C.2.2.2.2.1 K.1 P 0 rfl q1 j q3 (C.2.2.2.2.2.1 _ q4) (fun _ h9 => h9) (hv G) hd ?_
  have h' := h p l e s m a b me c G H lo rl C I K z P S L
  rw [List.map_cons, cv_ref (by omega)] at h'
  exact h'
theorem C_iast {qi N : Nat} {i x : Int32} {f : Gx → Nat → Int32} (hd : decode cc pc = .ok (.iastore, 1)) (ha : ∀ G, (es G)[qi]? = some (.inl (G.2.1.1, N, .inl (f G)))) (hi : vp_in i N) (hb : ∀ G, k0 + (es G).length ≤ 65) (hq : k0 + qi < 65)
    (h : Cj cc nL own R k0 cnt (pc + 1) ls st n ns (fun G => (es G).set qi (.inl (G.2.1.1, N, .inl (upd (f G) i.toNatClampNeg x))))) : Cj cc nL own R k0 cnt pc ls (.int x :: .int i :: .ref (k0 + qi) :: st) n ns es := by
  intro p l e s m a b me c G H lo rl C I K z P S L
  have D := wsC_D K.2.1 (k := k0) (es := es G) (hb G)
  have e2 : (Value.int x :: Value.int i :: Value.ref (k0 + qi) :: st).map (cv G) = .int x :: .int i :: .ref (adO G (k0 + qi)) :: st.map (cv G) := by rw [List.map_cons, List.map_cons, List.map_cons, cv_ref (k := k0 + qi) (by omega)]; rfl
  rw [e2]
  refine va_iast C.1 C.2.1 K.1 P D S qi 0 (wsC_at _ _ _ _ (ha G)) rfl hi hd (fun H1 lo1 P1 D1 S1 => ?_)
  rw [wsC_set] at P1
  exact h p l e s m a b me c G H1 lo1 rl C I K z P1 S1 L
theorem C_aast {qi wi : Nat} {i : Int32} {f : Gx → Nat → Option Nat} (hd : decode cc pc = .ok (.aastore, 1)) (ha : ∀ G, (es G)[qi]? = some (.inl (G.2.1.2.2.2, 4, .inr (.inr (.inr (.inr (f G))))))) (hv : ∀ G, ∃ vs, (es G)[wi]? = some (.inr (2, vs))) (hi : vp_in i 4) (hb : ∀ G, k0 + (es G).length ≤ 65) (hq : k0 + qi < 65) (hw : k0 + wi < 65)
    (h : Cj cc nL own R k0 cnt (pc + 1) ls st n ns (fun G => (es G).set qi (.inl (G.2.1.2.2.2, 4, .inr (.inr (.inr (.inr (va_up (f G) i.toNatClampNeg (some (adO G (k0 + wi))))))))))) : Cj cc nL own R k0 cnt pc ls (.ref (k0 + wi) :: .int i :: .ref (k0 + qi) :: st) n ns es := by
  intro p l e s m a b me c G H lo rl C I K z P S L
  have D := wsC_D K.2.1 (k := k0) (es := es G) (hb G)
  obtain ⟨vs, hvs⟩ := hv G
  have e2 : (Value.ref (k0 + wi) :: Value.int i :: Value.ref (k0 + qi) :: st).map (cv G) = .ref (adO G (k0 + wi)) :: .int i :: .ref (adO G (k0 + qi)) :: st.map (cv G) := by rw [List.map_cons, List.map_cons, List.map_cons, cv_ref (k := k0 + qi) (by omega), cv_ref (k := k0 + wi) (by omega)]; rfl
  rw [e2]
  refine va_astq (r := (RX2, TX2, 3)) C.1 C.2.1 K.1 P D S qi 3 wi 2 (wsC_at _ _ _ _ (ha G)) rfl (wsC_at _ _ _ _ hvs) rfl hi hd (fun H1 lo1 P1 D1 S1 => ?_)
  rw [wsC_set] at P1
  exact h p l e s m a b me c G H1 lo1 rl C I K z P1 S1 L
/-- a new array of sheets -/
theorem C_newq {idx N : Nat} (hd : decode cc pc = .ok (.anewarray idx, 3)) (w1 : Cond.classLink own idx "WallDown$Sheet" ∈ Tg) (hn : ∀ G, (es G).length = n + 1) (hb : k0 + n + 2 ≤ 65) (hN : N < 2 ^ 20) (hc : n + 1 ≤ R.cells) (hs : ns + N ≤ R.slots) (h : Cj cc nL own R k0 cnt (pc + 3) ls (.ref (k0 + n + 1) :: st) (n + 1) (ns + N) (fun G => es G ++ [.inl (G.2.1.2.2.2, N, .inr (.inr (.inr (.inr (fun _ => none)))))])) : Cj cc nL own R k0 cnt pc ls (.int (nI N) :: st) n ns es := by
  intro p l e s m a b me c G H lo rl C I K z P S L
  have hf := K.2.1
  have D := wsC_D hf (k := k0) (es := es G) (by rw [hn G]; omega)
  refine va_newq (N' := N) C.1 C.2.1 C.2.2.2.2.1 (C.2.2.2.2.2.1 _ w1) K.2.2.1 K.1 P D S (fun q hq => ?_) (nI_pos (by omega)) (nI_clamp (by omega)) (by omega) hc hs hd (fun q cA H1 K1 P1 D1 S1 => W_sz (fun sz => ?_))
  · rw [z, hf (k0 + 1) (by omega)] at hq
    show adO G k0 ≤ q
    rw [hf k0 (by omega)]; omega
  · have lw : (wsC G k0 (es G)).length = n + 1 := by rw [wsC_len, hn G]
    have at1 : (wsC G k0 (es G) ++ [(q, Sum.inl (cA, N, .inr (.inr (.inr (.inr (fun _ => none))))))])[n + 1]? = some (q, Sum.inl (cA, N, .inr (.inr (.inr (.inr (fun _ => none)))))) := by rw [List.getElem?_append_right (by omega), lw, Nat.sub_self]; rfl
    have eq : q = adO G (k0 + n + 1) := by
      refine q_det hf (by omega) (D1.2 _ _ at1) ?_ (fun j hj e => ?_)
      · have := (P1 _ _ at1).lt
        rw [z] at sz
        exact Nat.lt_of_lt_of_le this sz
      · obtain ⟨x, hx⟩ : ∃ x, (es G)[j]? = some x := ⟨_, List.getElem?_eq_getElem (by rw [hn G]; omega)⟩
        have at2 : (wsC G k0 (es G) ++ [(q, Sum.inl (cA, N, .inr (.inr (.inr (.inr (fun _ => none))))))])[j]? = some (adO G (k0 + j), x) := by rw [List.getElem?_append_left (by omega)]; exact wsC_at _ _ _ _ hx
        have := D1.1 _ _ _ _ at1 at2 e
        omega
    have ec : cA = G.2.1.2.2.2 := by
      obtain ⟨_, _, _, _, _, _, g1⟩ := K1.2 4 (cA, .object "WallDown$Sheet") rfl
      obtain ⟨_, _, _, _, _, _, g2⟩ := K.1.2 3 (G.2.1.2.2.2, .object "WallDown$Sheet") rfl
      exact Option.some.inj (g1.symm.trans g2)
    rw [eq, ec] at P1
    have P2 : va_P G.1 clsL (wsC G k0 (es G ++ [.inl (G.2.1.2.2.2, N, .inr (.inr (.inr (.inr (fun _ => none)))))])) H1 := by
      rw [wsC_app, hn G]; exact P1
    have h' := h p l e s m a b me c G H1 lo rl C I K z P2 S1 L
    rw [List.map_cons, cv_ref (by omega)] at h'
    rw [eq]
    exact h'
/-- the constructor of the last cell, a nest mate's -/
theorem C_callN {y : MethodName} {cc' : ByteArray} {nL' idx cnt' ci : Nat} {R' : Room} {fs : List Value} (hd : decode cc pc = .ok (.invokespecial idx, 3)) (hq : (own, idx, y) ∈ nlL) (w2 : Cond.initialized y.cls ∈ Tg) (w3 : Cond.code y cc' nL' none ∈ Tg) (w4 : y.cls ≠ "java/lang/invoke/MethodHandle" ∧ y.cls ≠ "java/lang/invoke/VarHandle" ∧ (parseMethodDescriptor y.desc).map (fun d => d.parameters.length) = some 0) (wi : Cond.instanceMethod y ∈ Tg) (hin : y.name = "<init>")
    (hR : R'.frames + 1 ≤ R.frames ∧ 8 + (nL' + 11) + R'.locals ≤ R.locals ∧ n + R'.cells ≤ R.cells ∧ ns + R'.slots ≤ R.slots) (hn : ∀ G, (es1 G).length = n) (hb : k0 + n + cnt' ≤ 65) (hc1 : 1 ≤ cnt') (h8 : (st.map fun v => v.category).sum ≤ 8) (hM : Mc y cc' nL' R' (k0 + n) cnt' ci fs)
    (h : Cj cc nL own R k0 cnt (pc + 3) ls st (n + R'.cells) (ns + R'.slots) (fun G => es1 G ++ mkE G (k0 + n) cnt')) : Cj cc nL own R k0 cnt pc ls (.ref (k0 + n) :: st) n ns (fun G => es1 G ++ [.inr (ci, fs)]) := by
  intro p l e s m a b me c G H lo rl C I K z P S L
  refine W_sz (fun sz => ?_)
  have hf := K.2.1
  have hT := C.2.2.2.2.2.1
  have atn : (wsC G k0 (es1 G ++ [.inr (ci, fs)]))[n]? = some (adO G (k0 + n), .inr (ci, fs)) := by
    refine wsC_at _ _ _ _ ?_
    rw [List.getElem?_append_right (by rw [hn G]; omega), hn G, Nat.sub_self]; rfl
  have lt := (P _ _ atn).lt
  have hsz : H.size = adO G (k0 + n + 1) := by
    replace lt : adO G (k0 + n) < H.size := lt
    rw [z, hf (k0 + 1) (by omega)] at sz
    rw [hf (k0 + n) (by omega)] at lt
    rw [hf (k0 + n + 1) (by omega)]
    omega
  have hM1 := hM l G
  simp only [List.map_cons, List.map_nil, cv_ref (G := G) (k := k0 + n) (by omega)] at hM1
  have w6 := w4.2.2
  have hr := va_runIN (p := p) (l := l) (e := e) (R := R) (s := s) (m := m) (args := a) (below := b) (meth := me) (c := c) (H := H) (locs := lo) (cells := n) (slots := ns) (g := F0 m pc rl ((Value.ref (k0 + n) :: st).map (cv G))) (b := adO G (k0 + n)) (As := []) (rest := st.map (cv G)) (Ts := Tg) (own := own) (host := "WallDown") (nL := nL) (cc := cc) (n := 0) ⟨C.1, C.2.1, C.2.2.2.1, C.2.2.2.2.1, hT⟩ hM1
    ⟨⟨⟨rfl, rfl, hR.1, hR.2.1, fun w hw => (List.mem_cons.mp hw).elim (fun z => by rw [z]; exact tg_all hT _ w3) (fun z => tg_all hT w z), List.mem_cons_self⟩, hT _ w3, hT _ w2, ⟨w4.1, w4.2.1⟩, fun sig z => (by rw [z] at w6; exact (Option.some.inj w6).symm), va_Nw.use rfl (K.2.2.2 _ hq)⟩, hin, hT _ wi⟩
    ⟨fun a' U g mk q => ⟨q.1, q.2.1, q.2.2.1, q.2.2.2.blind g mk a'⟩, fun U hU hW => ⟨rfl, by rw [hU]; exact hsz, by rw [hU]; exact P _ _ atn, K.to hW⟩⟩ rfl rfl L.1 (by simp [cv_ref (G := G) (k := k0 + n) (by omega)]) (cat_le h8) hd ⟨hR.2.2.1, hR.2.2.2⟩
  intro T hT1 X
  obtain ⟨v, st₀, t, T', L1, h0, X', hL, e1, e2, ⟨⟨hv, hcells⟩, hz1, hk1⟩, go⟩ := hr T hT1 X
  cases hv
  rw [h0] at hz1 hk1
  have nA : ∀ i, i < n → ¬ adO G (k0 + n) ≤ adO G (k0 + i) := fun i hi => by rw [hf (k0 + n) (by omega), hf (k0 + i) (by omega)]; omega
  have P1 : va_P G.1 clsL (wsC G k0 (es1 G ++ mkE G (k0 + n) cnt')) T'.heap := by
    intro i q hq1
    obtain ⟨x, hx, rfl⟩ := wsC_inv _ _ _ _ hq1
    by_cases hi : i < n
    · rw [List.getElem?_append_left (by rw [hn G]; exact hi)] at hx
      have p0 := P i (adO G (k0 + i), x) (wsC_at _ _ _ _ (by rw [List.getElem?_append_left (by rw [hn G]; exact hi)]; exact hx))
      refine p0.kept ?_
      rw [e1]
      exact hk1 _ p0.lt (nA i hi)
    · rw [List.getElem?_append_right (by rw [hn G]; omega), hn G] at hx
      have hj := (List.getElem?_eq_some_iff.mp hx).1
      rw [mkE_len] at hj
      rw [mkE_at hj] at hx
      cases hx
      have := hcells (i - n) hj
      rw [e1, show k0 + i = k0 + n + (i - n) by omega]
      exact this
  have a0 : adO G k0 ≤ adO G (k0 + n) := by rw [hf k0 (by omega), hf (k0 + n) (by omega)]; omega
  have S1 : va_S (fun q : Nat => adO G k0 ≤ q) s.heap T'.heap (lo ++ L1) := ⟨Nat.le_trans S.1 (by rw [e1]; exact hz1), fun q g1 g2 => by rw [e1, hk1 q (Nat.lt_of_lt_of_le g1 S.1) (fun z => g2 (Nat.le_trans a0 z))]; exact S.2.1 q g1 g2, fun q hq2 => by
      rcases List.mem_append.mp hq2 with z | z
      · exact S.2.2 q z
      · exact Nat.le_trans a0 (hL q z)⟩
  obtain ⟨t2, a2, b2⟩ := h p l e s m a b me c G T'.heap (lo ++ L1) rl C I K z P1 S1 L T' rfl X'
  exact ⟨t2, go t2 a2, b2⟩
theorem C_ret (hd : decode cc pc = .ok (.return_, 1)) (hn : n = R.cells) (hns : ns = R.slots) (hE : ∀ G j, j < cnt → ∃ x, (es G)[j]? = some x ∧ ∀ (q : Nat) (H : Heap), va_at G.1 clsL (q, x) H → va_at G.1 clsL (q, ceO G sg0 (k0 + j)) H) : Cj cc nL own R k0 cnt pc ls [] n ns es := by
  intro p l e s m a b me c G H lo rl C I K z P S L
  subst hn; subst hns
  refine W.vret C.1 C.2.1 C.2.2.1 (fun t ht hW => ⟨⟨rfl, fun j hj => ?_⟩, S.F ht⟩) S.2.2 hd C.2.2.2.2.2.2
  obtain ⟨x, h1, h2⟩ := hE G j hj
  rw [ht]
  exact h2 _ _ (P _ _ (wsC_at _ _ _ _ h1))
end CS
