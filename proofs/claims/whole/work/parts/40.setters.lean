/-! one number of a house changed -/
def hpu (h : MH) (v : Nat) : MH := (hC h, hK h, hH h, hP h, hW h, hB h, hS h, hN h, v)
theorem Hs_bm {σ : St} {a : Nat} {h : MH} (H : Hs σ a h) (hw : Wf h) (v : Nat) : Hs (sI σ a 5 (nI v)) a (hbm h v) := by
  refine ⟨fun u hu => ?_, ?_, ?_, ?_, ?_⟩
  · have c7 := (hw.1 u hu).1
    refine ⟨?_, ?_, fun j hj => ?_⟩
    · rw [gI_ne (by omega)]; exact (H.1 u hu).1
    · rw [gI_ne (by omega)]; exact (H.1 u hu).2.1
    · replace hj : j < hC h u := hj
      refine ⟨?_, ?_, ?_⟩
      · rw [gI_ne (by omega)]; exact ((H.1 u hu).2.2 j hj).1
      · rw [gI_ne (by omega)]; exact ((H.1 u hu).2.2 j hj).2.1
      · rw [gI_ne (by omega)]; exact ((H.1 u hu).2.2 j hj).2.2
  · rw [gI_eq]; rfl
  · rw [gI_ne (by omega)]; exact H.2.2.1
  · rw [gI_ne (by omega)]; exact H.2.2.2.1
  · rw [gI_ne (by omega)]; exact H.2.2.2.2
theorem Hs_sl {σ : St} {a : Nat} {h : MH} (H : Hs σ a h) (hw : Wf h) (v : Nat) : Hs (sI σ a 6 (nI v)) a (hsl h v) := by
  refine ⟨fun u hu => ?_, ?_, ?_, ?_, ?_⟩
  · have c7 := (hw.1 u hu).1
    refine ⟨?_, ?_, fun j hj => ?_⟩
    · rw [gI_ne (by omega)]; exact (H.1 u hu).1
    · rw [gI_ne (by omega)]; exact (H.1 u hu).2.1
    · replace hj : j < hC h u := hj
      refine ⟨?_, ?_, ?_⟩
      · rw [gI_ne (by omega)]; exact ((H.1 u hu).2.2 j hj).1
      · rw [gI_ne (by omega)]; exact ((H.1 u hu).2.2 j hj).2.1
      · rw [gI_ne (by omega)]; exact ((H.1 u hu).2.2 j hj).2.2
  · rw [gI_ne (by omega)]; exact H.2.1
  · rw [gI_eq]; rfl
  · rw [gI_ne (by omega)]; exact H.2.2.2.1
  · rw [gI_ne (by omega)]; exact H.2.2.2.2
theorem Hs_ni {σ : St} {a : Nat} {h : MH} (H : Hs σ a h) (hw : Wf h) (v : Nat) : Hs (sI σ a 7 (nI v)) a (hni h v) := by
  refine ⟨fun u hu => ?_, ?_, ?_, ?_, ?_⟩
  · have c7 := (hw.1 u hu).1
    refine ⟨?_, ?_, fun j hj => ?_⟩
    · rw [gI_ne (by omega)]; exact (H.1 u hu).1
    · rw [gI_ne (by omega)]; exact (H.1 u hu).2.1
    · replace hj : j < hC h u := hj
      refine ⟨?_, ?_, ?_⟩
      · rw [gI_ne (by omega)]; exact ((H.1 u hu).2.2 j hj).1
      · rw [gI_ne (by omega)]; exact ((H.1 u hu).2.2 j hj).2.1
      · rw [gI_ne (by omega)]; exact ((H.1 u hu).2.2 j hj).2.2
  · rw [gI_ne (by omega)]; exact H.2.1
  · rw [gI_ne (by omega)]; exact H.2.2.1
  · rw [gI_eq]; rfl
  · rw [gI_ne (by omega)]; exact H.2.2.2.2
theorem Hs_pu {σ : St} {a : Nat} {h : MH} (H : Hs σ a h) (hw : Wf h) (v : Nat) : Hs (sI σ a 8 (nI v)) a (hpu h v) := by
  refine ⟨fun u hu => ?_, ?_, ?_, ?_, ?_⟩
  · have c7 := (hw.1 u hu).1
    refine ⟨?_, ?_, fun j hj => ?_⟩
    · rw [gI_ne (by omega)]; exact (H.1 u hu).1
    · rw [gI_ne (by omega)]; exact (H.1 u hu).2.1
    · replace hj : j < hC h u := hj
      refine ⟨?_, ?_, ?_⟩
      · rw [gI_ne (by omega)]; exact ((H.1 u hu).2.2 j hj).1
      · rw [gI_ne (by omega)]; exact ((H.1 u hu).2.2 j hj).2.1
      · rw [gI_ne (by omega)]; exact ((H.1 u hu).2.2 j hj).2.2
  · rw [gI_ne (by omega)]; exact H.2.1
  · rw [gI_ne (by omega)]; exact H.2.2.1
  · rw [gI_ne (by omega)]; exact H.2.2.2.1
  · rw [gI_eq]; rfl
theorem Hs_we {σ : St} {a : Nat} {h : MH} (H : Hs σ a h) (hw : Wf h) {w : Nat} (h4 : w < 4) (v : Nat) : Hs (sI σ (a + 5) w (nI v)) a (hwe h w v) := by
  refine ⟨fun u hu => ?_, ?_, ?_, ?_, ?_⟩
  · have c7 := (hw.1 u hu).1
    refine ⟨?_, ?_, fun j hj => ?_⟩
    · rw [gI_ne (by omega)]; exact (H.1 u hu).1
    · show _ = nI (if u = w then v else hW h u)
      by_cases e : u = w
      · rw [e, if_pos rfl, gI_eq]
      · rw [if_neg e, gI_ne (by omega)]; exact (H.1 u hu).2.1
    · replace hj : j < hC h u := hj
      refine ⟨?_, ?_, ?_⟩
      · rw [gI_ne (by omega)]; exact ((H.1 u hu).2.2 j hj).1
      · rw [gI_ne (by omega)]; exact ((H.1 u hu).2.2 j hj).2.1
      · rw [gI_ne (by omega)]; exact ((H.1 u hu).2.2 j hj).2.2
  · rw [gI_ne (by omega)]; exact H.2.1
  · rw [gI_ne (by omega)]; exact H.2.2.1
  · rw [gI_ne (by omega)]; exact H.2.2.2.1
  · rw [gI_ne (by omega)]; exact H.2.2.2.2
theorem Hs_kd {σ : St} {a : Nat} {h : MH} (H : Hs σ a h) (hw : Wf h) {w i : Nat} (h4 : w < 4) (hi : i < hC h w) (v : Nat) : Hs (sI σ (a + 1) (w * 7 + i) (nI v)) a (hkd h w i v) := by
  have w7 := (hw.1 w h4).1
  refine ⟨fun u hu => ?_, ?_, ?_, ?_, ?_⟩
  · have c7 := (hw.1 u hu).1
    refine ⟨?_, ?_, fun j hj => ?_⟩
    · rw [gI_ne (by omega)]; exact (H.1 u hu).1
    · rw [gI_ne (by omega)]; exact (H.1 u hu).2.1
    · replace hj : j < hC h u := hj
      refine ⟨?_, ?_, ?_⟩
      · show _ = nI (if u = w ∧ j = i then v else hK h u j)
        by_cases e : u = w ∧ j = i
        · rw [if_pos e, e.1, e.2, gI_eq]
        · rw [if_neg e, gI_ne (by omega)]; exact ((H.1 u hu).2.2 j hj).1
      · rw [gI_ne (by omega)]; exact ((H.1 u hu).2.2 j hj).2.1
      · rw [gI_ne (by omega)]; exact ((H.1 u hu).2.2 j hj).2.2
  · rw [gI_ne (by omega)]; exact H.2.1
  · rw [gI_ne (by omega)]; exact H.2.2.1
  · rw [gI_ne (by omega)]; exact H.2.2.2.1
  · rw [gI_ne (by omega)]; exact H.2.2.2.2
theorem Hs_hi {σ : St} {a : Nat} {h : MH} (H : Hs σ a h) (hw : Wf h) {w i : Nat} (h4 : w < 4) (hi : i < hC h w) (v : Nat) : Hs (sI σ (a + 2) (w * 7 + i) (nI v)) a (hhi h w i v) := by
  have w7 := (hw.1 w h4).1
  refine ⟨fun u hu => ?_, ?_, ?_, ?_, ?_⟩
  · have c7 := (hw.1 u hu).1
    refine ⟨?_, ?_, fun j hj => ?_⟩
    · rw [gI_ne (by omega)]; exact (H.1 u hu).1
    · rw [gI_ne (by omega)]; exact (H.1 u hu).2.1
    · replace hj : j < hC h u := hj
      refine ⟨?_, ?_, ?_⟩
      · rw [gI_ne (by omega)]; exact ((H.1 u hu).2.2 j hj).1
      · show _ = nI (if u = w ∧ j = i then v else hH h u j)
        by_cases e : u = w ∧ j = i
        · rw [if_pos e, e.1, e.2, gI_eq]
        · rw [if_neg e, gI_ne (by omega)]; exact ((H.1 u hu).2.2 j hj).2.1
      · rw [gI_ne (by omega)]; exact ((H.1 u hu).2.2 j hj).2.2
  · rw [gI_ne (by omega)]; exact H.2.1
  · rw [gI_ne (by omega)]; exact H.2.2.1
  · rw [gI_ne (by omega)]; exact H.2.2.2.1
  · rw [gI_ne (by omega)]; exact H.2.2.2.2
theorem Hs_pr {σ : St} {a : Nat} {h : MH} (H : Hs σ a h) (hw : Wf h) {w i : Nat} (h4 : w < 4) (hi : i < hC h w) (v : Nat) : Hs (sI σ (a + 3) (w * 7 + i) (nI v)) a (hpr h w i v) := by
  have w7 := (hw.1 w h4).1
  refine ⟨fun u hu => ?_, ?_, ?_, ?_, ?_⟩
  · have c7 := (hw.1 u hu).1
    refine ⟨?_, ?_, fun j hj => ?_⟩
    · rw [gI_ne (by omega)]; exact (H.1 u hu).1
    · rw [gI_ne (by omega)]; exact (H.1 u hu).2.1
    · replace hj : j < hC h u := hj
      refine ⟨?_, ?_, ?_⟩
      · rw [gI_ne (by omega)]; exact ((H.1 u hu).2.2 j hj).1
      · rw [gI_ne (by omega)]; exact ((H.1 u hu).2.2 j hj).2.1
      · show _ = nI (if u = w ∧ j = i then v else hP h u j)
        by_cases e : u = w ∧ j = i
        · rw [if_pos e, e.1, e.2, gI_eq]
        · rw [if_neg e, gI_ne (by omega)]; exact ((H.1 u hu).2.2 j hj).2.2
  · rw [gI_ne (by omega)]; exact H.2.1
  · rw [gI_ne (by omega)]; exact H.2.2.1
  · rw [gI_ne (by omega)]; exact H.2.2.2.1
  · rw [gI_ne (by omega)]; exact H.2.2.2.2
theorem Ms_bm {σ : St} {a : Nat} {h : MH} (H : Ms σ a h) (hw : Wf h) (v : Nat) : Ms (sI σ a 92 (nI v)) a (hbm h v) := by
  refine ⟨fun u hu => ?_, ?_, ?_, ?_, ?_⟩
  · have c7 := (hw.1 u hu).1
    refine ⟨?_, ?_, fun j hj => ?_⟩
    · rw [gI_ne (by omega)]; exact (H.1 u hu).1
    · rw [gI_ne (by omega)]; exact (H.1 u hu).2.1
    · replace hj : j < hC h u := hj
      refine ⟨?_, ?_, ?_⟩
      · rw [gI_ne (by omega)]; exact ((H.1 u hu).2.2 j hj).1
      · rw [gI_ne (by omega)]; exact ((H.1 u hu).2.2 j hj).2.1
      · rw [gI_ne (by omega)]; exact ((H.1 u hu).2.2 j hj).2.2
  · rw [gI_eq]; rfl
  · rw [gI_ne (by omega)]; exact H.2.2.1
  · rw [gI_ne (by omega)]; exact H.2.2.2.1
  · rw [gI_ne (by omega)]; exact H.2.2.2.2
theorem Ms_sl {σ : St} {a : Nat} {h : MH} (H : Ms σ a h) (hw : Wf h) (v : Nat) : Ms (sI σ a 93 (nI v)) a (hsl h v) := by
  refine ⟨fun u hu => ?_, ?_, ?_, ?_, ?_⟩
  · have c7 := (hw.1 u hu).1
    refine ⟨?_, ?_, fun j hj => ?_⟩
    · rw [gI_ne (by omega)]; exact (H.1 u hu).1
    · rw [gI_ne (by omega)]; exact (H.1 u hu).2.1
    · replace hj : j < hC h u := hj
      refine ⟨?_, ?_, ?_⟩
      · rw [gI_ne (by omega)]; exact ((H.1 u hu).2.2 j hj).1
      · rw [gI_ne (by omega)]; exact ((H.1 u hu).2.2 j hj).2.1
      · rw [gI_ne (by omega)]; exact ((H.1 u hu).2.2 j hj).2.2
  · rw [gI_ne (by omega)]; exact H.2.1
  · rw [gI_eq]; rfl
  · rw [gI_ne (by omega)]; exact H.2.2.2.1
  · rw [gI_ne (by omega)]; exact H.2.2.2.2
theorem Ms_ni {σ : St} {a : Nat} {h : MH} (H : Ms σ a h) (hw : Wf h) (v : Nat) : Ms (sI σ a 94 (nI v)) a (hni h v) := by
  refine ⟨fun u hu => ?_, ?_, ?_, ?_, ?_⟩
  · have c7 := (hw.1 u hu).1
    refine ⟨?_, ?_, fun j hj => ?_⟩
    · rw [gI_ne (by omega)]; exact (H.1 u hu).1
    · rw [gI_ne (by omega)]; exact (H.1 u hu).2.1
    · replace hj : j < hC h u := hj
      refine ⟨?_, ?_, ?_⟩
      · rw [gI_ne (by omega)]; exact ((H.1 u hu).2.2 j hj).1
      · rw [gI_ne (by omega)]; exact ((H.1 u hu).2.2 j hj).2.1
      · rw [gI_ne (by omega)]; exact ((H.1 u hu).2.2 j hj).2.2
  · rw [gI_ne (by omega)]; exact H.2.1
  · rw [gI_ne (by omega)]; exact H.2.2.1
  · rw [gI_eq]; rfl
  · rw [gI_ne (by omega)]; exact H.2.2.2.2
theorem Ms_pu {σ : St} {a : Nat} {h : MH} (H : Ms σ a h) (hw : Wf h) (v : Nat) : Ms (sI σ a 95 (nI v)) a (hpu h v) := by
  refine ⟨fun u hu => ?_, ?_, ?_, ?_, ?_⟩
  · have c7 := (hw.1 u hu).1
    refine ⟨?_, ?_, fun j hj => ?_⟩
    · rw [gI_ne (by omega)]; exact (H.1 u hu).1
    · rw [gI_ne (by omega)]; exact (H.1 u hu).2.1
    · replace hj : j < hC h u := hj
      refine ⟨?_, ?_, ?_⟩
      · rw [gI_ne (by omega)]; exact ((H.1 u hu).2.2 j hj).1
      · rw [gI_ne (by omega)]; exact ((H.1 u hu).2.2 j hj).2.1
      · rw [gI_ne (by omega)]; exact ((H.1 u hu).2.2 j hj).2.2
  · rw [gI_ne (by omega)]; exact H.2.1
  · rw [gI_ne (by omega)]; exact H.2.2.1
  · rw [gI_ne (by omega)]; exact H.2.2.2.1
  · rw [gI_eq]; rfl
theorem Ms_we {σ : St} {a : Nat} {h : MH} (H : Ms σ a h) (hw : Wf h) {w : Nat} (h4 : w < 4) (v : Nat) : Ms (sI σ a (23 * w + 1) (nI v)) a (hwe h w v) := by
  refine ⟨fun u hu => ?_, ?_, ?_, ?_, ?_⟩
  · have c7 := (hw.1 u hu).1
    refine ⟨?_, ?_, fun j hj => ?_⟩
    · rw [gI_ne (by omega)]; exact (H.1 u hu).1
    · show _ = nI (if u = w then v else hW h u)
      by_cases e : u = w
      · rw [e, if_pos rfl, gI_eq]
      · rw [if_neg e, gI_ne (by omega)]; exact (H.1 u hu).2.1
    · replace hj : j < hC h u := hj
      refine ⟨?_, ?_, ?_⟩
      · rw [gI_ne (by omega)]; exact ((H.1 u hu).2.2 j hj).1
      · rw [gI_ne (by omega)]; exact ((H.1 u hu).2.2 j hj).2.1
      · rw [gI_ne (by omega)]; exact ((H.1 u hu).2.2 j hj).2.2
  · rw [gI_ne (by omega)]; exact H.2.1
  · rw [gI_ne (by omega)]; exact H.2.2.1
  · rw [gI_ne (by omega)]; exact H.2.2.2.1
  · rw [gI_ne (by omega)]; exact H.2.2.2.2
theorem Ms_kd {σ : St} {a : Nat} {h : MH} (H : Ms σ a h) (hw : Wf h) {w i : Nat} (h4 : w < 4) (hi : i < hC h w) (v : Nat) : Ms (sI σ a (23 * w + 2 + 3 * i) (nI v)) a (hkd h w i v) := by
  have w7 := (hw.1 w h4).1
  refine ⟨fun u hu => ?_, ?_, ?_, ?_, ?_⟩
  · have c7 := (hw.1 u hu).1
    refine ⟨?_, ?_, fun j hj => ?_⟩
    · rw [gI_ne (by omega)]; exact (H.1 u hu).1
    · rw [gI_ne (by omega)]; exact (H.1 u hu).2.1
    · replace hj : j < hC h u := hj
      refine ⟨?_, ?_, ?_⟩
      · show _ = nI (if u = w ∧ j = i then v else hK h u j)
        by_cases e : u = w ∧ j = i
        · rw [if_pos e, e.1, e.2, gI_eq]
        · rw [if_neg e, gI_ne (by omega)]; exact ((H.1 u hu).2.2 j hj).1
      · rw [gI_ne (by omega)]; exact ((H.1 u hu).2.2 j hj).2.1
      · rw [gI_ne (by omega)]; exact ((H.1 u hu).2.2 j hj).2.2
  · rw [gI_ne (by omega)]; exact H.2.1
  · rw [gI_ne (by omega)]; exact H.2.2.1
  · rw [gI_ne (by omega)]; exact H.2.2.2.1
  · rw [gI_ne (by omega)]; exact H.2.2.2.2
theorem Ms_hi {σ : St} {a : Nat} {h : MH} (H : Ms σ a h) (hw : Wf h) {w i : Nat} (h4 : w < 4) (hi : i < hC h w) (v : Nat) : Ms (sI σ a (23 * w + 2 + 3 * i + 1) (nI v)) a (hhi h w i v) := by
  have w7 := (hw.1 w h4).1
  refine ⟨fun u hu => ?_, ?_, ?_, ?_, ?_⟩
  · have c7 := (hw.1 u hu).1
    refine ⟨?_, ?_, fun j hj => ?_⟩
    · rw [gI_ne (by omega)]; exact (H.1 u hu).1
    · rw [gI_ne (by omega)]; exact (H.1 u hu).2.1
    · replace hj : j < hC h u := hj
      refine ⟨?_, ?_, ?_⟩
      · rw [gI_ne (by omega)]; exact ((H.1 u hu).2.2 j hj).1
      · show _ = nI (if u = w ∧ j = i then v else hH h u j)
        by_cases e : u = w ∧ j = i
        · rw [if_pos e, e.1, e.2, gI_eq]
        · rw [if_neg e, gI_ne (by omega)]; exact ((H.1 u hu).2.2 j hj).2.1
      · rw [gI_ne (by omega)]; exact ((H.1 u hu).2.2 j hj).2.2
  · rw [gI_ne (by omega)]; exact H.2.1
  · rw [gI_ne (by omega)]; exact H.2.2.1
  · rw [gI_ne (by omega)]; exact H.2.2.2.1
  · rw [gI_ne (by omega)]; exact H.2.2.2.2
theorem Ms_pr {σ : St} {a : Nat} {h : MH} (H : Ms σ a h) (hw : Wf h) {w i : Nat} (h4 : w < 4) (hi : i < hC h w) (v : Nat) : Ms (sI σ a (23 * w + 2 + 3 * i + 2) (nI v)) a (hpr h w i v) := by
  have w7 := (hw.1 w h4).1
  refine ⟨fun u hu => ?_, ?_, ?_, ?_, ?_⟩
  · have c7 := (hw.1 u hu).1
    refine ⟨?_, ?_, fun j hj => ?_⟩
    · rw [gI_ne (by omega)]; exact (H.1 u hu).1
    · rw [gI_ne (by omega)]; exact (H.1 u hu).2.1
    · replace hj : j < hC h u := hj
      refine ⟨?_, ?_, ?_⟩
      · rw [gI_ne (by omega)]; exact ((H.1 u hu).2.2 j hj).1
      · rw [gI_ne (by omega)]; exact ((H.1 u hu).2.2 j hj).2.1
      · show _ = nI (if u = w ∧ j = i then v else hP h u j)
        by_cases e : u = w ∧ j = i
        · rw [if_pos e, e.1, e.2, gI_eq]
        · rw [if_neg e, gI_ne (by omega)]; exact ((H.1 u hu).2.2 j hj).2.2
  · rw [gI_ne (by omega)]; exact H.2.1
  · rw [gI_ne (by omega)]; exact H.2.2.1
  · rw [gI_ne (by omega)]; exact H.2.2.2.1
  · rw [gI_ne (by omega)]; exact H.2.2.2.2
