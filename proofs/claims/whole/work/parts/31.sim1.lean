/-! The simplest calls. -/
theorem GTab.st {T S B G now st th pi kd : Nat → Int32} {bo x : Int32} (h : GTab T S B G now st th pi kd bo) : GTab (upd T 0 x) S B G (upd now 1 x) st th pi kd bo := by
  obtain ⟨⟨a1, a2, a3, a4, a5, a6⟩, hs, hb, hg⟩ := h
  refine ⟨⟨rfl, a2, a3, a4, a5, a6⟩, fun s hs9 => ?_, fun b hb9 => ?_, fun k hk => ?_⟩
  · obtain ⟨c1, c2, c3, c4, c5⟩ := hs s hs9
    exact ⟨c1, c2, by rw [pk_un (by omega)]; exact c3, c4, by rw [pk_un (by omega)]; exact c5⟩
  · obtain ⟨c1, c2, c3, c4, c5, c6⟩ := hb b hb9
    exact ⟨c1, by rw [pk_un (by omega)]; exact c2, by rw [pk_un (by omega)]; exact c3, by rw [pk_un (by omega)]; exact c4, by rw [pk_un (by omega)]; exact c5, by rw [pk_un (by omega)]; exact c6⟩
  · rw [pk_un (by omega)]; exact hg k hk
theorem GRng.st {now st th pi kd : Nat → Int32} {bo x : Int32} (h : GRng now st th pi kd bo) : GRng (upd now 1 x) st th pi kd bo := by
  obtain ⟨a1, hs, hb⟩ := h
  refine ⟨a1, fun s hs9 => ?_, fun b hb9 => ?_⟩
  · obtain ⟨c1, c4, c5⟩ := hs s hs9
    exact ⟨c1, c4, by rw [pk_un (by omega)]; exact c5⟩
  · obtain ⟨c1, c3, c4, c5⟩ := hb b hb9
    exact ⟨c1, by rw [pk_un (by omega)]; exact c3, by rw [pk_un (by omega)]; exact c4, by rw [pk_un (by omega)]; exact c5⟩
theorem GPast.none {nx ct : Int32} {ls : Nat → Int32} {tb : gb_Mem} {rw rw2 : Nat → Int32} {un sz sz2 : Int32} {st th pi kd st2 th2 pi2 kd2 : Nat → Int32} {bo bo2 : Int32} (h : GPast nx ct ls tb rw un sz st th pi kd bo) : GPast nx 0 ls tb rw2 0 sz2 st2 th2 pi2 kd2 bo2 := by
  obtain ⟨-, x, k, hx, hk, e1, e2, -⟩ := h
  exact ⟨rfl, x, 0, hx, by omega, e1, rfl, fun i hi => absurd hi (Nat.not_lt_zero i)⟩
/-- the reference's 'told' doesn't matter -/
theorem ginv_told {IX IM : gb_Mem} {v : Int32} (h : GInv IX IM) : GInv IX (mw IM 0 0 v) := by
  unfold GInv GWorld GFix at *
  simp +decide (disch := decide) only [mw_ne, mw_eq, upd_ap, ↓reduceIte] at *
  exact h
theorem sim_state : S_state GInv := by
  intro x1 IX IM h
  have h := ginv_told (v := 0) h
  refine ⟨IX 2 0, mw (mw IX 2 0 x1) 69 3 0, mw (mw (mw IM 0 0 0) 1 1 x1) 0 3 0, rfl, ?_, ?_⟩
  · show some (mw IM 0 0 0 1 1, _) = _
    rw [← h.2.2.1.1.1.1]
  · generalize mw IM 0 0 0 = IM at h
    unfold GInv GWorld GFix at *
    simp +decide (disch := decide) only [mw_ne, mw_eq, upd_ap, xP_mw, ↓reduceIte] at *
    obtain ⟨hF, h5, ⟨hT, hR, hBk, hW⟩, hPa, hO⟩ := h
    exact ⟨hF, h5, ⟨hT.st, hR.st, hBk, hW⟩, hPa.none, hO⟩
