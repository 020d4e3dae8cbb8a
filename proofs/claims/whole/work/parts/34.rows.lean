/-! Rows of two numbers: cloth, report, jar. -/
theorem fbd_p {α β : Type} (o : Option (α × β)) : fbd o (fun (r, I) => some (r, I)) = o := by cases o <;> rfl
theorem fbd_i {α : Type} (o : Option α) : fbd o (fun r => some r) = o := by cases o <;> rfl
theorem within_1 {x lo hi : Int32} {I : gb_Mem} : ¬ F_Gb_within x lo hi I = 0 ↔ (lo ≤ x ∧ x ≤ hi) := by rw [within_0]; exact Classical.not_not
theorem sim_cloth : S_cloth GInv := by
  intro x1 x2 IX IM h
  have h9 := ginv_told (v := 0) h
  generalize hI : mw IM 0 0 0 = I1 at h9
  obtain ⟨e1, k, hk, e2, h3⟩ := h9.2.2.1.2.2.2.2.2.2.2.2.2.2.2.2.1
  have hX : F_Gb_cloth x1 x2 IX = F_Gb_tell 29 36 x1 x2 (if F_Gb_within x1 0 99 IX = 0 then 0 else if F_Gb_within x2 (x1 + 1) 100 IX = 0 then 0 else 1) IX := by
    unfold F_Gb_cloth
    by_cases q1 : F_Gb_within x1 0 99 IX = 0
    · rw [if_pos q1, if_pos q1]; exact fbd_p _
    · rw [if_neg q1, if_neg q1]
      by_cases q2 : F_Gb_within x2 (x1 + 1) 100 IX = 0
      · rw [if_pos q2, if_pos q2]; exact fbd_p _
      · rw [if_neg q2, if_neg q2]; exact fbd_p _
  rw [hX, tell_a (lim := 9) (k := k) x1 x2 _ h9.1.1.2.2.2.2.2.2.2.2.2.1 (e1.trans e2) hk rfl (by decide)]
  simp only [F_Mo_cloth, fstf_d, hI, e2]
  by_cases c1 : x1 = -1
  · refine ⟨0, mw IX 29 2 0, mw I1 0 58 0, by rw [if_pos c1], by rw [if_pos c1], ?_⟩
    unfold GInv GWorld GFix at *
    simp +decide (disch := decide) only [mw_ne, mw_eq, mset_ne, mset_eq, upd_ap, xP_mw, xP_mset, ↓reduceIte] at *
    obtain ⟨hF, h5, ⟨t1, t2, t3, t4, t5, t6, t7, t8, t9, t10, t11, t12, t13, t14, t15⟩, hO⟩ := h9
    exact ⟨hF, h5, ⟨t1, t2, t3, t4, t5, t6, t7, t8, t9, t10, t11, t12, GRow2.none, t14, t15⟩, hO⟩
  · rw [if_neg c1, if_neg c1]
    by_cases c2 : F_Gb_within x1 0 99 IX = 0 ∨ F_Gb_within x2 (x1 + 1) 100 IX = 0
    · have c2' : F_Mo_isIn x1 0 99 I1 = 0 ∨ F_Mo_isIn x2 (x1 + 1) 100 I1 = 0 := c2
      refine ⟨-1, IX, I1, ?_, ?_, h9⟩
      · rw [if_pos]
        by_cases q1 : F_Gb_within x1 0 99 IX = 0
        · rw [if_pos q1]
        · rw [if_neg q1, if_pos (c2.resolve_left q1)]
      · by_cases q1 : F_Mo_isIn x1 0 99 I1 = 0
        · rw [if_pos q1]
        · rw [if_neg q1, if_pos (c2'.resolve_left q1)]
    · have n1 : ¬ F_Gb_within x1 0 99 IX = 0 := fun q => c2 (Or.inl q)
      have n2 : ¬ F_Gb_within x2 (x1 + 1) 100 IX = 0 := fun q => c2 (Or.inr q)
      have m12 : ¬ F_Mo_isIn x1 0 99 I1 = 0 ∧ ¬ F_Mo_isIn x2 (x1 + 1) 100 I1 = 0 := ⟨n1, n2⟩
      rw [if_neg n1, if_neg n2, if_neg (show ¬ (1 : Int32) = 0 by decide), if_neg m12.1, if_neg m12.2]
      by_cases c3 : k = 9
      · exact ⟨-1, IX, I1, by rw [if_pos c3], by rw [if_pos (by rw [c3]; rfl)], h9⟩
      · have c4 : ¬ nI k = 9 := fun q => c3 ((nI_eq (a := k) (b := 9) (by omega) (by decide)).mp q)
        refine ⟨nI (k + 1), _, mw (mw (mw I1 35 k x1) 36 k x2) 0 58 (nI (k + 1)), by rw [if_neg c3], ?_, ?_⟩
        · rw [if_neg c4, fsto_n (by omega) (by decide)]
          have q0 : mw I1 35 k x1 0 58 = nI k := by rw [mw_ne (by decide)]; exact e2
          have q1 : mw (mw I1 35 k x1) 36 k x2 0 58 = nI k := by rw [mw_ne (by decide)]; exact q0
          rw [q0, fsto_n (by omega) (by decide), q1, show nI k + 1 = nI (k + 1) from nI_1 k, mw_eq, pk_us]
        · have hR : gIn x1 0 99 ∧ gIn x2 1 100 ∧ x1 < x2 := by
            have r1 : gIn x1 0 99 := within_in n1
            have r2 := within_in n2
            obtain ⟨j, rfl, hj, hj2⟩ := gIn_n r1
            have r3 : gIn x2 (nI (j + 1)).toInt 100 := by rw [← nI_1]; exact r2
            unfold gIn at r3 ⊢
            rw [nI_toInt (by omega)] at r3
            refine ⟨r1, ⟨by omega, r3.2⟩, Int32.lt_iff_toInt_lt.mpr ?_⟩
            rw [nI_toInt hj2]; omega
          unfold GInv GWorld GFix at *
          simp +decide (disch := decide) only [mw_ne, mw_eq, mset_ne, mset_eq, upd_ap, xP_mw, xP_mset, ↓reduceIte] at *
          obtain ⟨hF, h5, ⟨t1, t2, t3, t4, t5, t6, t7, t8, t9, t10, t11, t12, t13, t14, t15⟩, hO⟩ := h9
          rw [e2] at t13
          exact ⟨hF, h5, ⟨t1, t2, t3, t4, t5, t6, t7, t8, t9, t10, t11, t12, t13.add (by omega) (by decide) hR, t14, t15⟩, hO⟩
theorem sim_report : S_report GInv := by
  intro x1 x2 IX IM h
  have h9 := ginv_told (v := 0) h
  generalize hI : mw IM 0 0 0 = I1 at h9
  obtain ⟨e1, k, hk, e2, h3⟩ := h9.2.2.1.2.2.2.2.2.2.2.2.2.2.2.2.2.1
  have hX : F_Gb_report x1 x2 IX = F_Gb_tell 31 32 x1 x2 (if F_Gb_within x1 0 99 IX = 0 then 0 else if F_Gb_within x2 x1 99 IX = 0 then 0 else 1) IX := by
    unfold F_Gb_report
    by_cases q1 : F_Gb_within x1 0 99 IX = 0
    · rw [if_pos q1, if_pos q1]; exact fbd_p _
    · rw [if_neg q1, if_neg q1]
      by_cases q2 : F_Gb_within x2 x1 99 IX = 0
      · rw [if_pos q2, if_pos q2]; exact fbd_p _
      · rw [if_neg q2, if_neg q2]; exact fbd_p _
  rw [hX, tell_a (lim := 8) (k := k) x1 x2 _ h9.1.1.2.2.2.2.2.2.2.2.2.2.1 (e1.trans e2) hk rfl (by decide)]
  simp only [F_Mo_report, fstf_d, hI, e2]
  by_cases c1 : x1 = -1
  · refine ⟨0, mw IX 31 2 0, mw I1 0 61 0, by rw [if_pos c1], by rw [if_pos c1], ?_⟩
    unfold GInv GWorld GFix at *
    simp +decide (disch := decide) only [mw_ne, mw_eq, mset_ne, mset_eq, upd_ap, xP_mw, xP_mset, ↓reduceIte] at *
    obtain ⟨hF, h5, ⟨t1, t2, t3, t4, t5, t6, t7, t8, t9, t10, t11, t12, t13, t14, t15⟩, hO⟩ := h9
    exact ⟨hF, h5, ⟨t1, t2, t3, t4, t5, t6, t7, t8, t9, t10, t11, t12, t13, GRow2.none, t15⟩, hO⟩
  · rw [if_neg c1, if_neg c1]
    by_cases c2 : F_Gb_within x1 0 99 IX = 0 ∨ F_Gb_within x2 x1 99 IX = 0
    · have c2' : F_Mo_isIn x1 0 x2 I1 = 0 ∨ F_Mo_isIn x2 0 99 I1 = 0 := by
        apply Classical.byContradiction; intro q
        have q1 : ¬ F_Gb_within x1 0 x2 I1 = 0 := fun z => q (Or.inl z)
        have q2 : ¬ F_Gb_within x2 0 99 I1 = 0 := fun z => q (Or.inr z)
        rw [within_1] at q1 q2
        exact c2.elim (fun z => within_0.mp z ⟨q1.1, Int32.le_trans q1.2 q2.2⟩) (fun z => within_0.mp z ⟨q1.2, q2.2⟩)
      refine ⟨-1, IX, I1, ?_, ?_, h9⟩
      · rw [if_pos]
        by_cases q1 : F_Gb_within x1 0 99 IX = 0
        · rw [if_pos q1]
        · rw [if_neg q1, if_pos (c2.resolve_left q1)]
      · by_cases q1 : F_Mo_isIn x1 0 x2 I1 = 0
        · rw [if_pos q1]
        · rw [if_neg q1, if_pos (c2'.resolve_left q1)]
    · have n1 : ¬ F_Gb_within x1 0 99 IX = 0 := fun q => c2 (Or.inl q)
      have n2 : ¬ F_Gb_within x2 x1 99 IX = 0 := fun q => c2 (Or.inr q)
      have m12 : ¬ F_Mo_isIn x1 0 x2 I1 = 0 ∧ ¬ F_Mo_isIn x2 0 99 I1 = 0 := by
        have p1 := within_1.mp n1
        have p2 := within_1.mp n2
        exact ⟨fun z => within_0.mp (show F_Gb_within x1 0 x2 I1 = 0 from z) ⟨p1.1, p2.1⟩, fun z => within_0.mp (show F_Gb_within x2 0 99 I1 = 0 from z) ⟨Int32.le_trans p1.1 p2.1, p2.2⟩⟩
      rw [if_neg n1, if_neg n2, if_neg (show ¬ (1 : Int32) = 0 by decide), if_neg m12.1, if_neg m12.2]
      by_cases c3 : k = 8
      · exact ⟨-1, IX, I1, by rw [if_pos c3], by rw [if_pos (by rw [c3]; rfl)], h9⟩
      · have c4 : ¬ nI k = 8 := fun q => c3 ((nI_eq (a := k) (b := 8) (by omega) (by decide)).mp q)
        refine ⟨nI (k + 1), _, mw (mw (mw I1 37 k x1) 38 k x2) 0 61 (nI (k + 1)), by rw [if_neg c3], ?_, ?_⟩
        · rw [if_neg c4, fsto_n (by omega) (by decide)]
          have q0 : mw I1 37 k x1 0 61 = nI k := by rw [mw_ne (by decide)]; exact e2
          have q1 : mw (mw I1 37 k x1) 38 k x2 0 61 = nI k := by rw [mw_ne (by decide)]; exact q0
          rw [q0, fsto_n (by omega) (by decide), q1, show nI k + 1 = nI (k + 1) from nI_1 k, mw_eq, pk_us]
        · have hR : gIn x1 0 99 ∧ gIn x2 0 99 ∧ x1 ≤ x2 := by
            have p2 := within_1.mp n2
            exact ⟨within_in n1, within_in (I := I1) m12.2, p2.1⟩
          unfold GInv GWorld GFix at *
          simp +decide (disch := decide) only [mw_ne, mw_eq, mset_ne, mset_eq, upd_ap, xP_mw, xP_mset, ↓reduceIte] at *
          obtain ⟨hF, h5, ⟨t1, t2, t3, t4, t5, t6, t7, t8, t9, t10, t11, t12, t13, t14, t15⟩, hO⟩ := h9
          rw [e2] at t14
          exact ⟨hF, h5, ⟨t1, t2, t3, t4, t5, t6, t7, t8, t9, t10, t11, t12, t13, t14.add (by omega) (by decide) hR, t15⟩, hO⟩
theorem sim_jar : S_jar GInv := by
  intro x1 x2 IX IM h
  have h9 := ginv_told (v := 0) h
  generalize hI : mw IM 0 0 0 = I1 at h9
  obtain ⟨e1, k, hk, e2, h3⟩ := h9.2.2.1.2.2.2.2.2.2.2.2.2.2.2.2.2.2
  have hX : F_Gb_jar x1 x2 IX = F_Gb_tell 33 36 x1 x2 (if F_Gb_within x1 1 30 IX = 0 then 0 else if F_Gb_within x2 0 99 IX = 0 then 0 else 1) IX := by
    unfold F_Gb_jar
    by_cases q1 : F_Gb_within x1 1 30 IX = 0
    · rw [if_pos q1, if_pos q1]; exact fbd_p _
    · rw [if_neg q1, if_neg q1]
      by_cases q2 : F_Gb_within x2 0 99 IX = 0
      · rw [if_pos q2, if_pos q2]; exact fbd_p _
      · rw [if_neg q2, if_neg q2]; exact fbd_p _
  rw [hX, tell_a (lim := 9) (k := k) x1 x2 _ h9.1.1.2.2.2.2.2.2.2.2.2.2.2.1 (e1.trans e2) hk rfl (by decide)]
  simp only [F_Mo_jar, fstf_d, hI, e2]
  by_cases c1 : x1 = -1
  · refine ⟨0, mw IX 33 2 0, mw I1 0 64 0, by rw [if_pos c1], by rw [if_pos c1], ?_⟩
    unfold GInv GWorld GFix at *
    simp +decide (disch := decide) only [mw_ne, mw_eq, mset_ne, mset_eq, upd_ap, xP_mw, xP_mset, ↓reduceIte] at *
    obtain ⟨hF, h5, ⟨t1, t2, t3, t4, t5, t6, t7, t8, t9, t10, t11, t12, t13, t14, t15⟩, hO⟩ := h9
    exact ⟨hF, h5, ⟨t1, t2, t3, t4, t5, t6, t7, t8, t9, t10, t11, t12, t13, t14, GRow2.none⟩, hO⟩
  · rw [if_neg c1, if_neg c1]
    by_cases c2 : F_Gb_within x1 1 30 IX = 0 ∨ F_Gb_within x2 0 99 IX = 0
    · have c2' : F_Mo_isIn x1 1 30 I1 = 0 ∨ F_Mo_isIn x2 0 99 I1 = 0 := c2
      refine ⟨-1, IX, I1, ?_, ?_, h9⟩
      · rw [if_pos]
        by_cases q1 : F_Gb_within x1 1 30 IX = 0
        · rw [if_pos q1]
        · rw [if_neg q1, if_pos (c2.resolve_left q1)]
      · by_cases q1 : F_Mo_isIn x1 1 30 I1 = 0
        · rw [if_pos q1]
        · rw [if_neg q1, if_pos (c2'.resolve_left q1)]
    · have n1 : ¬ F_Gb_within x1 1 30 IX = 0 := fun q => c2 (Or.inl q)
      have n2 : ¬ F_Gb_within x2 0 99 IX = 0 := fun q => c2 (Or.inr q)
      have m12 : ¬ F_Mo_isIn x1 1 30 I1 = 0 ∧ ¬ F_Mo_isIn x2 0 99 I1 = 0 := ⟨n1, n2⟩
      rw [if_neg n1, if_neg n2, if_neg (show ¬ (1 : Int32) = 0 by decide), if_neg m12.1, if_neg m12.2]
      by_cases c3 : k = 9
      · exact ⟨-1, IX, I1, by rw [if_pos c3], by rw [if_pos (by rw [c3]; rfl)], h9⟩
      · have c4 : ¬ nI k = 9 := fun q => c3 ((nI_eq (a := k) (b := 9) (by omega) (by decide)).mp q)
        refine ⟨nI (k + 1), _, mw (mw (mw I1 39 k x1) 40 k x2) 0 64 (nI (k + 1)), by rw [if_neg c3], ?_, ?_⟩
        · rw [if_neg c4, fsto_n (by omega) (by decide)]
          have q0 : mw I1 39 k x1 0 64 = nI k := by rw [mw_ne (by decide)]; exact e2
          have q1 : mw (mw I1 39 k x1) 40 k x2 0 64 = nI k := by rw [mw_ne (by decide)]; exact q0
          rw [q0, fsto_n (by omega) (by decide), q1, show nI k + 1 = nI (k + 1) from nI_1 k, mw_eq, pk_us]
        · have hR : gIn x1 1 30 ∧ gIn x2 0 99 := ⟨within_in n1, within_in n2⟩
          unfold GInv GWorld GFix at *
          simp +decide (disch := decide) only [mw_ne, mw_eq, mset_ne, mset_eq, upd_ap, xP_mw, xP_mset, ↓reduceIte] at *
          obtain ⟨hF, h5, ⟨t1, t2, t3, t4, t5, t6, t7, t8, t9, t10, t11, t12, t13, t14, t15⟩, hO⟩ := h9
          rw [e2] at t15
          exact ⟨hF, h5, ⟨t1, t2, t3, t4, t5, t6, t7, t8, t9, t10, t11, t12, t13, t14, t15.add (by omega) (by decide) hR⟩, hO⟩
