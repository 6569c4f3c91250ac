/-! THE LAW'S ENTRY: the two are made, then the loop -/
theorem tws_1 : Cond.classLink R_law 7 RX6 ∈ Tg := tg_tab (List.mem_of_getElem? (i := 16) (by decide +kernel)) (by decide +kernel)
theorem tws_2 : Cond.classLink R_law 10 RX7 ∈ Tg := tg_tab (List.mem_of_getElem? (i := 796) (by decide +kernel)) (by decide +kernel)
theorem tws_3 : Cond.methodLink R_law 9 yX6_init ∈ Tg := tg_tab (List.mem_of_getElem? (i := 18) (by decide +kernel)) (by decide +kernel)
theorem tws_4 : Cond.methodLink R_law 12 yX7_init ∈ Tg := tg_tab (List.mem_of_getElem? (i := 798) (by decide +kernel)) (by decide +kernel)
theorem tws_5 : Cond.instanceMethod yX6_init ∈ Tg := tg_tab (List.mem_of_getElem? (i := 19) (by decide +kernel)) (by decide +kernel)
theorem tws_8 : Cond.instanceMethod yX7_init ∈ Tg := tg_tab (List.mem_of_getElem? (i := 799) (by decide +kernel)) (by decide +kernel)
theorem tws_9 : Cond.code yX6_init cX6_init 2 none ∈ Tg := tg_tab (List.mem_of_getElem? (i := 20) (by decide +kernel)) (by decide +kernel)
theorem tws_10 : Cond.code yX7_init cX7_init 1 none ∈ Tg := tg_tab (List.mem_of_getElem? (i := 800) (by decide +kernel)) (by decide +kernel)
/-- a new object of the law's, and its constructor -/
theorem st_make {p : Program} {l : Launch} {e : Env} {s : State} {m : MethodId} {below : List Frame} {meth : Method} {c : Code} {G : Gx} {L : Nat} {xs : Nat → Int32} {H : Heap} {locs : List Loc} {rl : Array Slot} {Q : State → Prop} {y : MethodName} {cc' : ByteArray} {nL' k0 cnt ci pc i1 i2 ns : Nat} {R' : Room} {fs : List Value} {Cn : vw_C} (n2 ns2 : Nat) (ty0 : Nat → FieldType) (C : lw_At p s m meth c (adO G 202) L xs) (K : Kc G s) (hz : adO G 0 = s.heap.size)
    (d0 : decode code pc = .ok (.new i1, 3)) (d1 : decode code (pc + 3) = .ok (.dup, 1)) (d2 : decode code (pc + 3 + 1) = .ok (.invokespecial i2, 3))
    (hcl : clsL[ci]? = some Cn) (hin : ∀ w ∈ u_ws Cn.1 Cn.2.1 Cn.2.2, w ∈ Tg) (hty : ∀ k, k < Cn.2.2 → parseFieldDescriptor (Cn.2.1 k).2.2.1 = some (ty0 k)) (w1 : Cond.classLink R_law i1 Cn.1 ∈ Tg) (w2 : Cond.instantiable Cn.1 Cn.2.2 ∈ Tg) (w3 : Cond.initialized Cn.1 ∈ Tg) (hfs : ∀ j, j < Cn.2.2 → defaultValue (ty0 j) = vp_V fs j)
    (v1 : Cond.methodLink R_law i2 y ∈ Tg) (v2 : Cond.initialized y.cls ∈ Tg) (v3 : Cond.code y cc' nL' none ∈ Tg) (v4 : y.cls ≠ "java/lang/invoke/MethodHandle" ∧ y.cls ≠ "java/lang/invoke/VarHandle" ∧ (parseMethodDescriptor y.desc).map (fun d => d.parameters.length) = some 0) (v5 : Cond.instanceMethod y ∈ Tg) (hini : y.name = "<init>")
    (hM : Mc y cc' nL' R' k0 cnt ci fs) (hR : R'.frames + 1 ≤ room_1.frames ∧ 8 + (nL' + 11) + R'.locals ≤ room_1.locals ∧ k0 + 1 + R'.cells ≤ room_1.cells ∧ ns + Cn.2.2 + R'.slots ≤ room_1.slots) (hb : k0 + cnt ≤ 65) (hc1 : 1 ≤ cnt) (hsz : rl.size = 4)
    (P : ∀ j, j < k0 → va_at G.1 clsL (adO G j, ceO G sg0 j) H) (S : va_S (fun q : Nat => s.heap.size ≤ q) s.heap H locs) (e1 : k0 + 1 + R'.cells = n2) (e2 : ns + Cn.2.2 + R'.slots = ns2)
    (kk : ∀ (H1 : Heap) (locs1 : List Loc), (∀ j, j < k0 + cnt → va_at G.1 clsL (adO G j, ceO G sg0 j) H1) → va_S (fun q : Nat => s.heap.size ≤ q) s.heap H1 locs1 → W p l e room_1 s m #[Value.ref (adO G 202)] below meth c H1 locs1 n2 ns2 Q (F0 m (pc + 3 + 1 + 3) rl [.ref (adO G k0)])) :
    W p l e room_1 s m #[Value.ref (adO G 202)] below meth c H locs k0 ns Q (F0 m pc rl []) := by
  subst e1; subst e2
  have hf := K.2.1
  have hT : ∀ w ∈ Tg, w.before #[Value.ref (adO G 202)] s = true := fun w hw => C.2.2.2.2.2.1 w (List.mem_filter.mp hw).1
  have P0 : va_P G.1 clsL (wsC G 0 (mkE G 0 k0)) H := by
    intro i q hq
    obtain ⟨x, hx, rfl⟩ := wsC_inv _ _ _ _ hq
    have hi := (List.getElem?_eq_some_iff.mp hx).1
    rw [mkE_len] at hi
    rw [mkE_at hi] at hx
    cases hx
    rw [Nat.zero_add]
    exact P i hi
  have D0 : va_D (fun q : Nat => s.heap.size ≤ q) (wsC G 0 (mkE G 0 k0)) := by
    have h0 := wsC_D hf (k := 0) (es := mkE G 0 k0) (by rw [mkE_len]; omega)
    rw [hz] at h0
    exact h0
  have hR3 := hR.2.2.1
  have hR4 := hR.2.2.2
  refine va_new (Ts := Tg) (C := Cn.1) (T := Cn.2.1) (N := Cn.2.2) (ci := ci) (fs := fs) C.1 C.2.1 hT hin ty0 hty C.2.2.2.2.1 (hT _ w1) (hT _ w2) (hT _ w3) K.1 P0 D0 S (fun q hq => hq) hcl hfs (by omega) (by omega) d0 (fun q H1 P1 D1 S1 => W_sz (fun sz => ?_))
  have lw : (wsC G 0 (mkE G 0 k0)).length = k0 := by rw [wsC_len, mkE_len]
  have at1 : (wsC G 0 (mkE G 0 k0) ++ [(q, Sum.inr (ci, fs))])[k0]? = some (q, Sum.inr (ci, fs)) := by rw [List.getElem?_append_right (by omega), lw, Nat.sub_self]; rfl
  have lt1 : q < H1.size := (P1 _ _ at1).lt
  have ge1 : s.heap.size ≤ q := D1.2 _ _ at1
  have eq : q = adO G k0 := by
    rw [hf k0 (by omega), hz]
    by_cases cq : q - s.heap.size < k0
    · exfalso
      have at2 : (wsC G 0 (mkE G 0 k0) ++ [(q, Sum.inr (ci, fs))])[q - s.heap.size]? = some (adO G (0 + (q - s.heap.size)), ceO G sg0 (0 + (q - s.heap.size))) := by
        rw [List.getElem?_append_left (by omega)]; exact wsC_at _ _ _ _ (mkE_at cq)
      have h9 := D1.1 _ _ _ _ at1 at2 (show q = adO G (0 + (q - s.heap.size)) by rw [Nat.zero_add, hf (q - s.heap.size) (by omega), hz]; omega)
      omega
    · omega
  subst eq
  have hsz1 : H1.size = adO G (k0 + 1) := by
    rw [hf k0 (by omega), hz] at lt1
    rw [hf (k0 + 1) (by omega), hz]
    omega
  have aNew : va_at G.1 clsL (adO G k0, .inr (ci, fs)) H1 := P1 _ _ at1
  refine lv_dup C.1 C.2.1 d1 rfl ?_
  have hM1 := hM l G
  simp only [List.map_cons, List.map_nil, cv_ref (G := G) (k := k0) (by omega)] at hM1
  have w6 := v4.2.2
  have hr := va_runI (p := p) (l := l) (e := e) (R := room_1) (s := s) (m := m) (args := #[Value.ref (adO G 202)]) (below := below) (meth := meth) (c := c) (H := H1) (locs := locs) (cells := k0 + 1) (slots := ns + Cn.2.2) (g := F0 m (pc + 3 + 1) rl [.ref (adO G k0), .ref (adO G k0)]) (b := adO G k0) (As := []) (rest := [.ref (adO G k0)]) (Ts := Tg) (own := R_law) (nL := 4) (cc := code) (n := 0) ⟨C.1, C.2.1, C.2.2.2.1, C.2.2.2.2.1, hT⟩ hM1
    ⟨⟨rfl, rfl, hR.1, hR.2.1, fun w hw => (List.mem_cons.mp hw).elim (fun z => by rw [z]; exact tg_all hT _ v3) (fun z => tg_all hT w z), List.mem_cons_self, hT _ v3, hT _ v2, ⟨v4.1, v4.2.1⟩, fun sig z => (by rw [z] at w6; exact (Option.some.inj w6).symm), hT _ v1⟩, hini, hT _ v5⟩
    ⟨fun a' U g mk q => ⟨q.1, q.2.1, q.2.2.1, q.2.2.2.blind g mk a'⟩, fun U hU hW => ⟨rfl, by rw [hU]; exact hsz1, by rw [hU]; exact aNew, K.to hW⟩⟩ rfl rfl hsz rfl (lv_room (m := m) (pc := pc + 3 + 1) (ls := rl) (rest := [.ref (adO G k0), .ref (adO G k0)]) (Nat.le_of_ble_eq_true rfl)) d2 ⟨hR3, hR4⟩
  intro T hT1 X
  obtain ⟨v, st₀, t, T', L1, h0, X', hL, e1, e2, ⟨⟨hv, hcells⟩, hz1, hk1⟩, go⟩ := hr T hT1 X
  cases hv
  rw [h0] at hz1 hk1
  have P2 : ∀ j, j < k0 + cnt → va_at G.1 clsL (adO G j, ceO G sg0 j) T'.heap := by
    intro j hj
    by_cases hjk : j < k0
    · have p0 : va_at G.1 clsL (adO G j, ceO G sg0 j) H1 := by
        have h9 := P1 j (adO G (0 + j), ceO G sg0 (0 + j)) (by rw [List.getElem?_append_left (by omega)]; exact wsC_at _ _ _ _ (mkE_at hjk))
        rw [Nat.zero_add] at h9
        exact h9
      refine p0.kept ?_
      rw [e1]
      exact hk1 _ p0.lt (by show ¬ adO G k0 ≤ adO G j; rw [hf k0 (by omega), hf j (by omega)]; omega)
    · have h9 := hcells (j - k0) (by omega)
      rw [show k0 + (j - k0) = j by omega] at h9
      rw [e1]
      exact h9
  have a0 : s.heap.size ≤ adO G k0 := by rw [hf k0 (by omega), hz]; omega
  have S2 : va_S (fun q : Nat => s.heap.size ≤ q) s.heap T'.heap (locs ++ L1) := ⟨Nat.le_trans S1.1 (by rw [e1]; exact hz1), fun q g1 g2 => by rw [e1, hk1 q (Nat.lt_of_lt_of_le g1 S1.1) (fun z => g2 (Nat.le_trans a0 z))]; exact S1.2.1 q g1 g2, fun q hq2 => by
      rcases List.mem_append.mp hq2 with z | z
      · exact S1.2.2 q z
      · exact Nat.le_trans a0 (hL q z)⟩
  obtain ⟨t2, a2, b2⟩ := kk T'.heap (locs ++ L1) P2 S2 T' rfl X'
  exact ⟨t2, go t2 a2, b2⟩
theorem whole_start {p : Program} {e : Env} {s : State} {m : MethodId} {below : List Frame} {meth : Method} {c : Code} (l : Launch) (hflags : l.flags = flags0) {b L : Nat} {xs : Nat → Int32} (hL : L ≤ 3072) (C0 : lw_At p s m meth c b L xs) : W p l e room_1 s m #[Value.ref b] below meth c s.heap [] 0 0 (lw_Z below #[Value.ref b] s) (entryFrame m ([Value.ref b] : List Value).toArray 4) := by
  obtain ⟨G, rfl, hf, hX, hC⟩ := st_G C0.2.2.2.2.2.1 C0.2.2.2.2.2.2.2.2.2
  have hz : adO G 0 = s.heap.size := hf 0 (by omega)
  have eb : ([Value.ref 202] : List Value).map (cv G) = [Value.ref (adO G 202)] := by rw [List.map_cons, List.map_nil, cv_ref (by omega)]
  have hl := lvO_entry G [Value.ref 202] (n := 4) (k := 3) (ls := [.ref 202, un, un, un]) rfl (by decide)
  rw [eb] at hl
  rw [lg_entry_eq]
  generalize hrl : (lg_sl [Value.ref (adO G 202)] ++ List.replicate (4 - (lg_sl [Value.ref (adO G 202)]).length) Slot.unset).toArray = rl
  rw [hrl] at hl
  have ec0 : cv G (.ref 0) = .ref (adO G 0) := cv_ref (by omega)
  have ec1 : cv G (.ref 49) = .ref (adO G 49) := cv_ref (by omega)
  refine st_make (k0 := 0) (cnt := 49) (ci := 6) (Cn := (RX6, TX6, 9)) (R' := rmC6) 49 5056 tyX6 C0 hC hz dL_law_0 dL_law_3 dL_law_4 rfl in_6 tyX6_ok tws_1 tws_6 tw_141 df_6 tws_3 tw_141 tws_9 ⟨by decide +kernel, by decide +kernel, by decide +kernel⟩ tws_5 rfl c_WallDown ⟨Nat.le_of_ble_eq_true rfl, Nat.le_of_ble_eq_true rfl, Nat.le_of_ble_eq_true rfl, Nat.le_of_ble_eq_true rfl⟩ (by decide) (by decide) hl.1 (fun j hj => absurd hj (Nat.not_lt_zero j)) va_S.rf rfl rfl (fun H1 lo1 P1 S1 => ?_)
  refine lv_astore_n C0.1 C0.2.1 dL_law_7 rfl (lvO_has hl) (by decide) rfl (fun r2 h2 => ?_)
  have hl2 : lvO G r2 4 [.ref 202, .ref 0, un, un] := lvO_of1 (rl := rl) (v := .ref 0) (by rw [ec0]; exact h2) rfl
  refine st_make (k0 := 49) (cnt := 16) (ci := 7) (Cn := (RX7, TX7, 23)) (R' := rmC7) 65 22150 tyX7 C0 hC hz dL_law_8 dL_law_11 dL_law_12 rfl in_7 tyX7_ok tws_2 tws_7 tw_454 df_7 tws_4 tw_454 tws_10 ⟨by decide +kernel, by decide +kernel, by decide +kernel⟩ tws_8 rfl c_Model ⟨Nat.le_of_ble_eq_true rfl, Nat.le_of_ble_eq_true rfl, Nat.le_of_ble_eq_true rfl, Nat.le_of_ble_eq_true rfl⟩ (by decide) (by decide) hl2.1 (fun j hj => P1 j (by omega)) S1 rfl rfl (fun H2 lo2 P2 S2 => ?_)
  refine lv_astore_n C0.1 C0.2.1 dL_law_15 rfl (lvO_has hl2) (by decide) rfl (fun r3 h3 => ?_)
  have hl3 : lvO G r3 4 [.ref 202, .ref 0, .ref 49, un] := lvO_of1 (rl := r2) (v := .ref 49) (by rw [ec1]; exact h3) rfl
  have PW : va_P G.1 clsL (wsO G sg0) H2 := by
    intro i q hq
    have hi : i < 65 := by have := (List.getElem?_eq_some_iff.mp hq).1; simpa [wsO] using this
    rw [wsO_at hi] at hq
    cases hq
    exact P2 i hi
  have fin : Lw L xs 16 [.ref 202, .ref 0, .ref 49, un] [] sg0 := L_iconst (v := nI 0) dL_law_16 (by decide) (L_istore_n (k := 3) dL_law_17 rfl (lw_loop hL L 0 (by omega) (by omega) sg0 inv_sg0))
  exact fin p l e s m below meth c G H2 lo2 r3 ⟨C0, hL, hX, fun k hk => by rw [hf k (by omega)]; omega⟩ PW S2 hl3
