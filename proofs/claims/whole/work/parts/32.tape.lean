/-! look, fault, end, feed. -/
theorem fstf_d {α : Type} (I : gb_Mem) (a j : Nat) (v : Int32) (k : gb_Mem → Option α) : fstf I a j v k = k (mw I a j v) := rfl
theorem fbd_s {α β : Type} (x : α) (k : α → Option β) : fbd (some x) k = k x := rfl
theorem flt_d {α : Type} (e : Int32) (k : Int32 → Option α) : flt e k = k e := rfl
theorem inb_n {j n : Nat} (h : j < n) (hn : n < 2 ^ 31) : inb (nI j) n = true := inb_iff.mpr (vp_in_nI h hn)
theorem fsto_n {α : Type} {I : gb_Mem} {a n j : Nat} {v : Int32} {k : gb_Mem → Option α} (h : j < n) (hn : n < 2 ^ 31) : fsto I a n (nI j) v k = k (mw I a j v) := by
  unfold fsto
  rw [if_pos (inb_n h hn), nI_clamp (by omega)]
theorem flod_n {α : Type} {I : gb_Mem} {a n j : Nat} {k : Int32 → Option α} (h : j < n) (hn : n < 2 ^ 31) : flod I a n (nI j) k = k (I a j) := by
  unfold flod
  rw [if_pos (inb_n h hn), nI_clamp (by omega)]
theorem gIn_nI {k : Nat} {lo hi : Int} (hk : k < 2 ^ 31) : gIn (nI k) lo hi ↔ lo ≤ k ∧ (k : Int) ≤ hi := by unfold gIn; rw [nI_toInt hk]
/-- a value of a range from 0 on is a number -/
theorem gIn_n {x : Int32} {hi : Int} (h : gIn x 0 hi) : ∃ k : Nat, x = nI k ∧ (k : Int) ≤ hi ∧ k < 2 ^ 31 := by
  obtain ⟨h1, h2⟩ := h
  have h0 : ¬ x < 0 := fun q => by
    have := Int32.lt_iff_toInt_lt.mp q
    simp at this
    omega
  obtain ⟨j, hj, e⟩ := nI_of h0
  subst e
  rw [nI_toInt hj] at h2
  exact ⟨j, rfl, h2, hj⟩
theorem isIn_within (a b c : Int32) (I I2 : gb_Mem) : F_Mo_isIn a b c I = F_Gb_within a b c I2 := rfl
theorem within_0 {x lo hi : Int32} {I : gb_Mem} : F_Gb_within x lo hi I = 0 ↔ ¬ (lo ≤ x ∧ x ≤ hi) := by
  unfold F_Gb_within
  by_cases h1 : x < lo
  · rw [if_pos h1]
    simp only [true_iff]
    intro h
    exact Int32.lt_irrefl (Int32.lt_of_lt_of_le h1 h.1)
  · rw [if_neg h1]
    by_cases h2 : hi < x
    · rw [if_pos h2]
      simp only [true_iff]
      intro h
      exact Int32.lt_irrefl (Int32.lt_of_lt_of_le h2 h.2)
    · rw [if_neg h2]
      constructor
      · intro h; exact absurd h (by decide)
      · intro h; exact absurd ⟨Int32.not_lt.mp h1, Int32.not_lt.mp h2⟩ h
theorem within_b (x lo hi : Int32) (I : gb_Mem) : F_Gb_within x lo hi I = 0 ∨ F_Gb_within x lo hi I = 1 := by
  unfold F_Gb_within
  split
  · exact Or.inl rfl
  · split
    · exact Or.inl rfl
    · exact Or.inr rfl
theorem within_in {x lo hi : Int32} {I : gb_Mem} (h : ¬ F_Gb_within x lo hi I = 0) : gIn x lo.toInt hi.toInt := by
  have h2 : lo ≤ x ∧ x ≤ hi := Classical.byContradiction fun q => h (within_0.mpr q)
  exact ⟨Int32.le_iff_toInt_le.mp h2.1, Int32.le_iff_toInt_le.mp h2.2⟩
theorem sim_look : S_look GInv := by
  intro x1 IX IM h
  have h9 := ginv_told (v := 0) h
  refine ⟨F_Gb_look x1 IX, IX, mw IM 0 0 0, ⟨rfl, rfl⟩, ?_, h9⟩
  generalize hI : mw IM 0 0 0 = I1 at h9
  obtain ⟨hF, h5, ⟨hT, hR, hBk, hLw, hVo, hDi, hRe, hW⟩, hPa, hTp, hFt, hIm⟩ := h9
  have hlw : IX 6 4 = I1 11 0 := hLw.1
  simp only [F_Mo_look, F_Gb_look, fstf_d, hI]
  rw [hT.1.2.2.2.2.2, hT.1.2.1, hT.1.2.2.1, hT.1.2.2.2.1, hT.1.2.2.2.2.1, hBk.1, hT.1.1, hlw, hVo.1, hDi.1, hRe.1, hPa.1]
  by_cases c0 : x1 = 0
  · subst c0; rfl
  by_cases c1 : x1 = 1
  · subst c1; rfl
  by_cases c2 : x1 = 2
  · subst c2; rfl
  by_cases c3 : x1 = 3
  · subst c3; rfl
  by_cases c4 : x1 = 4
  · subst c4; rfl
  by_cases c5 : x1 = 5
  · subst c5; rfl
  by_cases c6 : x1 = 6
  · subst c6; rfl
  by_cases c7 : x1 = 7
  · subst c7; rfl
  by_cases c8 : x1 = 8
  · subst c8; rfl
  by_cases c9 : x1 = 9
  · subst c9; rfl
  by_cases c10 : x1 = 10
  · subst c10; rfl
  by_cases c11 : x1 = 11
  · subst c11; rfl
  simp only [c0, c1, c2, c3, c4, c5, c6, c7, c8, c9, c10, c11, if_false, ↓reduceIte]
theorem sim_fault : S_fault GInv := by
  intro x1 IX IM h
  have h9 := ginv_told (v := 0) h
  refine ⟨F_Gb_fault x1 IX, IX, mw IM 0 0 0, ⟨rfl, rfl⟩, ?_, h9⟩
  generalize hI : mw IM 0 0 0 = I1 at h9
  obtain ⟨hF, h5, hW, hPa, hTp, hFt, hIm⟩ := h9
  simp only [F_Mo_fault, F_Gb_fault, fstf_d, hI]
  rw [hFt.1, hFt.2]
  by_cases c0 : x1 = 0
  · subst c0; rfl
  by_cases c1 : x1 = 1
  · subst c1; rfl
  simp only [c0, c1, if_false, ↓reduceIte]
theorem sim_end : S_end GInv := by
  intro x1 IX IM h
  have h9 := ginv_told (v := 0) h
  generalize hI : mw IM 0 0 0 = I1 at h9
  have e0 : IX 0 10 = I1 0 13 := h9.2.2.2.2.1.1
  by_cases hc : F_Gb_within x1 0 (I1 0 13) I1 = 0
  · refine ⟨0, IX, I1, ?_, ?_, h9⟩
    · unfold F_Gb_end
      rw [e0, show F_Gb_within x1 0 (I1 0 13) IX = 0 from hc, if_pos rfl]
    · simp only [F_Mo_end, fstf_d, hI]
      rw [show F_Mo_isIn x1 0 (I1 0 13) I1 = 0 from hc, if_pos rfl]
  · refine ⟨1, mw IX 0 10 x1, mw I1 0 13 x1, ?_, ?_, ?_⟩
    · unfold F_Gb_end fstf
      rw [e0, if_neg (show ¬ F_Gb_within x1 0 (I1 0 13) IX = 0 from hc)]
    · simp only [F_Mo_end, fstf_d, hI]
      rw [if_neg (show ¬ F_Mo_isIn x1 0 (I1 0 13) I1 = 0 from hc)]
    · have hin := within_in hc
      obtain ⟨-, k, hk, e1, hk2⟩ := h9.2.2.2.2.1
      rw [e1, nI_toInt (by omega)] at hin
      obtain ⟨j, rfl, hj, -⟩ := gIn_n hin
      unfold GInv GWorld GFix at *
      simp +decide (disch := decide) only [mw_ne, mw_eq, mset_ne, mset_eq, upd_ap, xP_mw, xP_mset, ↓reduceIte] at *
      obtain ⟨hF, h5, hW, hPa, hTp, hO⟩ := h9
      exact ⟨hF, h5, hW, hPa, ⟨rfl, j, by omega, rfl, fun i hi => hk2 i (by omega)⟩, hO⟩
