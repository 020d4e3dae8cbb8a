/-! got, book, convoy, letter. -/
theorem sim_got : S_got GInv := by
  intro x1 x2 IX IM h
  have h9 := ginv_told (v := 0) h
  generalize hI : mw IM 0 0 0 = I1 at h9
  have hg := h9.2.2.1.1.2.2.2
  simp only [F_Mo_got, fstf_d, hI, J_Mo_got_15, J_Mo_got_40, isIn_within _ _ _ I1 IX, F_Gb_got, J_Gb_got_10]
  by_cases q : F_Gb_within x2 0 4 IX = 0
  · refine ⟨-1, IX, I1, ⟨?_, rfl⟩, ?_, h9⟩
    · rw [if_pos q]; simp only [ite_self]
    · rw [if_pos q]; simp only [ite_self]
  · obtain ⟨j, rfl, hj⟩ := wi_num (m := 4) q (by decide)
    rw [if_neg q, if_neg q]
    simp only [F_Ta_ofGot, J_Ta_ofGot_22]
    rw [if_neg q]
    by_cases c1 : x1 = 0
    · subst c1
      refine ⟨IX 5 j, IX, I1, ⟨?_, rfl⟩, ?_, h9⟩
      · rw [if_pos rfl, if_pos rfl, show (0 : Int32) + nI j = nI j from by rw [show (0 : Int32) = nI 0 from rfl, nI_add, Nat.zero_add], flod_n (by omega) (by decide)]; rfl
      · rw [if_pos rfl, if_pos rfl, show (30 : Int32) + 0 + nI j = nI (30 + j) from nI_add 30 j, flod_n (by omega) (by decide), hg j (by omega)]
    · rw [if_neg c1, if_neg c1, if_neg c1]
      by_cases c2 : x1 = 11
      · subst c2
        refine ⟨IX 5 (5 + j), IX, I1, ⟨?_, rfl⟩, ?_, h9⟩
        · rw [if_pos rfl, show (5 : Int32) + nI j = nI (5 + j) from nI_add 5 j, flod_n (by omega) (by decide)]; rfl
        · rw [if_pos rfl, if_neg c1, show (30 : Int32) + 5 + nI j = nI (30 + (5 + j)) from by rw [show (30 : Int32) + 5 = nI 35 from rfl, nI_add, ← Nat.add_assoc], flod_n (by omega) (by decide), hg (5 + j) (by omega)]
      · exact ⟨-1, IX, I1, ⟨by rw [if_neg c2], rfl⟩, by rw [if_neg c2], h9⟩
theorem sim_book : S_book GInv := by
  intro x1 x2 IX IM h
  have h9 := ginv_told (v := 0) h
  generalize hI : mw IM 0 0 0 = I1 at h9
  obtain ⟨e1, k, hk, e2, h3⟩ := h9.2.2.1.2.2.1
  unfold F_Gb_book
  simp only [F_Mo_book, fstf_d, hI, isIn_within _ _ _ I1 IX, e1]
  by_cases c1 : F_Gb_within x1 0 (I1 1 2 - 1) IX = 0
  · exact ⟨-1, IX, I1, ⟨by rw [if_pos c1], rfl⟩, by rw [if_pos c1], h9⟩
  · rw [if_neg c1, if_neg c1]
    by_cases c2 : F_Gb_within x2 0 3 IX = 0
    · exact ⟨-1, IX, I1, ⟨by rw [if_pos c2], rfl⟩, by rw [if_pos c2], h9⟩
    · rw [if_neg c2, if_neg c2]
      obtain ⟨j, rfl, hj⟩ := wi_num (m := 3) c2 (by decide)
      cases k with
      | zero =>
        exfalso
        rw [e2] at c1
        have := within_in c1
        unfold gIn at this
        rw [show (nI 0 - 1 : Int32).toInt = -1 from rfl, show (0 : Int32).toInt = 0 from rfl] at this
        omega
      | succ k =>
        rw [e2, nI_pred] at c1
        obtain ⟨i, rfl, hi⟩ := wi_num c1 (by omega)
        refine ⟨IX 18 (4 * i + j), IX, I1, ⟨?_, rfl⟩, ?_, h9⟩
        · rw [cell_n (e1.trans e2) (by omega) (by omega) (by omega) (by decide)]; rfl
        · rw [show (4 : Int32) * nI i + nI j = nI (4 * i + j) by rw [show (4 : Int32) = nI 4 from rfl, pk_mul, nI_add], flod_n (by omega) (by decide), h3 _ (by omega)]
/-- the same first number among a convoy's -/
theorem cv_loop {IX I1 : gb_Mem} {k : Nat} (x1 x2 : Int32) (hk : k ≤ 8) (eX : IX 23 2 = nI k) (eM : I1 0 50 = nI k) (h3 : ∀ i, i < k → IX 24 (4 * i) = I1 30 i) : ∀ m i fX fM : Nat, i + m = k → m < fX → m < fM →
    (L_Ro_hasFirst_2 23 32 x1 IX fX (nI i) = some (.inl ()) ∧ L_Mo_convoy_51 x1 x2 I1 fM (nI i) = some (.inl ())) ∨ (L_Ro_hasFirst_2 23 32 x1 IX fX (nI i) = some (.inr 1) ∧ L_Mo_convoy_51 x1 x2 I1 fM (nI i) = some (.inr (-1, I1))) := by
  intro m
  induction m with
  | zero =>
    intro i fX fM hi h1 h2
    obtain ⟨fX, rfl⟩ : ∃ f, fX = f + 1 := ⟨fX - 1, by omega⟩
    obtain ⟨fM, rfl⟩ : ∃ f, fM = f + 1 := ⟨fM - 1, by omega⟩
    left
    simp only [L_Ro_hasFirst_2, L_Mo_convoy_51, eX, eM]
    rw [if_pos (nI_le (by omega) (by omega)), if_pos (nI_le (by omega) (by omega))]
    exact ⟨rfl, rfl⟩
  | succ m ih =>
    intro i fX fM hi h1 h2
    obtain ⟨fX, rfl⟩ : ∃ f, fX = f + 1 := ⟨fX - 1, by omega⟩
    obtain ⟨fM, rfl⟩ : ∃ f, fM = f + 1 := ⟨fM - 1, by omega⟩
    simp only [L_Ro_hasFirst_2, L_Mo_convoy_51, eX, eM]
    rw [if_neg (nI_ge (by omega) (by omega)), if_neg (nI_ge (by omega) (by omega)), show F_Ro_cell 23 32 (nI i) 0 IX = some (I1 30 i) from (cell_n (j := 0) eX (by omega) (by omega) (by omega) (by decide)).trans (congrArg some (h3 i (by omega))), flod_n (by omega) (by decide), fbd_s]
    by_cases c : I1 30 i = x1
    · rw [if_pos c, if_pos c]
      exact Or.inr ⟨rfl, rfl⟩
    · rw [if_neg c, if_neg c, nI_1]
      exact ih (i + 1) fX fM (by omega) (by omega) (by omega)
theorem sim_convoy : S_convoy GInv := by
  intro x1 x2 IX IM h
  have h9 := ginv_told (v := 0) h
  generalize hI : mw IM 0 0 0 = I1 at h9
  obtain ⟨e1, k, hk, e2, h3⟩ := h9.2.2.1.2.2.2.2.2.2.2.2.2.1
  have hL := cv_loop x1 x2 hk (e1.trans e2) e2 (fun i hi => (h3 i hi).1) k 0 5000 5000 (by omega) (by omega) (by omega)
  have hT := fun x => tell_a (lim := 8) (k := k) (n := 32) x1 x2 x h9.1.1.2.2.2.2.2.2.1 (e1.trans e2) hk rfl (by decide)
  by_cases c1 : x1 = -1
  · subst c1
    refine ⟨0, mw IX 23 2 0, mw I1 0 50 0, ?_, ?_, ?_⟩
    · rw [show F_Gb_convoy (-1) x2 IX = fbd (F_Gb_tell 23 32 (-1) x2 0 IX) (fun (r, I) => some (r, I)) from rfl, fbd_p, hT]; rfl
    · simp only [F_Mo_convoy, fstf_d, hI, ↓reduceIte]
    · unfold GInv GWorld GFix at *
      simp +decide (disch := decide) only [mw_ne, mw_eq, mset_ne, mset_eq, upd_ap, xP_mw, xP_mset, ↓reduceIte] at *
      obtain ⟨hF, h5, ⟨t1, t2, t3, t4, t5, t6, t7, t8, t9, t10, t11⟩, hO⟩ := h9
      exact ⟨hF, h5, ⟨t1, t2, t3, t4, t5, t6, t7, t8, t9, GRow2.none, t11⟩, hO⟩
  · have hT0 : F_Gb_tell 23 32 x1 x2 0 IX = some (-1, IX) := by rw [hT, if_neg c1, if_pos rfl]
    have hT1 : F_Gb_tell 23 32 x1 x2 1 IX = if k = 8 then some (-1, IX) else some (nI (k + 1), mw (mset IX (23 + 1) (up4 (IX (23 + 1)) k x1 x2 0 0)) 23 2 (nI (k + 1))) := by rw [hT, if_neg c1, if_neg (show ¬ (1 : Int32) = 0 by decide)]
    simp only [F_Gb_convoy, J_Gb_convoy_37, J_Gb_convoy_38, fbd_p, hT0, hT1, F_Mo_convoy, fstf_d, hI, e2, isIn_within _ _ _ I1 IX]
    rw [if_neg c1]
    by_cases c2 : F_Gb_within x1 0 99 IX = 0
    · exact ⟨-1, IX, I1, by rw [if_pos c2], by rw [if_pos c2], h9⟩
    rw [if_neg c2, if_neg c2]
    by_cases c3 : F_Gb_within x2 0 1 IX = 0
    · exact ⟨-1, IX, I1, by rw [if_pos c3], by rw [if_pos c3], h9⟩
    rw [if_neg c3, if_neg c3]
    unfold F_Ro_hasFirst
    rw [show (0 : Int32) = nI 0 from rfl]
    by_cases c4 : k = 8
    · rw [if_pos c4, if_pos (by rw [c4]; rfl)]
      rcases hL with ⟨l1, l2⟩ | ⟨l1, l2⟩
      · rw [l1]
        exact ⟨-1, IX, I1, rfl, rfl, h9⟩
      · rw [l1]
        exact ⟨-1, IX, I1, rfl, rfl, h9⟩
    · have c5 : ¬ nI k = 8 := fun q => c4 ((nI_eq (a := k) (b := 8) (by omega) (by decide)).mp q)
      rw [if_neg c4, if_neg c5]
      rcases hL with ⟨l1, l2⟩ | ⟨l1, l2⟩
      · rw [l1, l2]
        have q0 : mw I1 30 k x1 0 50 = nI k := by rw [mw_ne (by decide)]; exact e2
        have q1 : mw (mw I1 30 k x1) 31 k x2 0 50 = nI k := by rw [mw_ne (by decide)]; exact q0
        refine ⟨nI (k + 1), _, mw (mw (mw I1 30 k x1) 31 k x2) 0 50 (nI (k + 1)), rfl, ?_, ?_⟩
        · simp only [fbr]
          rw [fsto_n (by omega) (by decide), q0, fsto_n (by omega) (by decide), q1, nI_1, mw_eq, pk_us]
        · have hR : gIn x1 0 99 ∧ gIn x2 0 1 := ⟨within_in c2, within_in c3⟩
          clear hT hT0 hT1
          unfold GInv GWorld GFix at *
          simp +decide (disch := decide) only [mw_ne, mw_eq, mset_ne, mset_eq, upd_ap, xP_mw, xP_mset, ↓reduceIte] at *
          obtain ⟨hF, h5, ⟨t1, t2, t3, t4, t5, t6, t7, t8, t9, t10, t11⟩, hO⟩ := h9
          rw [e2] at t10
          exact ⟨hF, h5, ⟨t1, t2, t3, t4, t5, t6, t7, t8, t9, t10.add (by omega) (by decide) hR, t11⟩, hO⟩
      · rw [l1, l2]
        exact ⟨-1, IX, I1, rfl, rfl, h9⟩
theorem sim_letter : S_letter GInv := by
  intro x1 x2 IX IM h
  have h9 := ginv_told (v := 0) h
  generalize hI : mw IM 0 0 0 = I1 at h9
  simp only [F_Gb_letter, J_Gb_letter_32, fbd_p, F_Mo_letter, fstf_d, hI, isIn_within _ _ _ I1 IX]
  by_cases c0 : F_Gb_within x1 0 1 IX = 0
  · exact ⟨-1, IX, I1, by rw [if_pos c0], by rw [if_pos c0], h9⟩
  rw [if_neg c0, if_neg c0]
  obtain ⟨w, rfl, hw⟩ := wi_num (m := 1) c0 (by decide)
  have hcase : w = 0 ∨ w = 1 := by omega
  rcases hcase with rfl | rfl
  · obtain ⟨e1, k, hk, e2, h3⟩ := h9.2.2.1.2.2.2.2.2.2.2.1
    rw [if_pos (show nI 0 = 0 from rfl), tell_a (lim := 12) (k := k) x2 0 _ h9.1.1.2.2.2.2.1 (e1.trans e2) hk rfl (by decide)]
    by_cases c1 : x2 = -1
    · rw [if_pos c1, if_pos c1, fsto_n (by decide) (by decide)]
      refine ⟨_, _, _, rfl, rfl, ?_⟩
      unfold GInv GWorld GFix at *
      simp +decide (disch := decide) only [mw_ne, mw_eq, mset_ne, mset_eq, upd_ap, xP_mw, xP_mset, ↓reduceIte] at *
      obtain ⟨hF, h5, ⟨t1, t2, t3, t4, t5, t6, t7, t8, t9⟩, hO⟩ := h9
      exact ⟨hF, h5, ⟨t1, t2, t3, t4, t5, t6, t7, GRow1.none (n := 0) (m := 0), t9⟩, hO⟩
    · rw [if_neg c1, if_neg c1]
      by_cases c2 : F_Gb_within x2 0 9 IX = 0
      · exact ⟨-1, IX, I1, by rw [if_pos c2], by rw [if_pos c2], h9⟩
      rw [if_neg c2, if_neg c2, flod_n (by decide) (by decide), flod_n (by decide) (by decide), e2]
      by_cases c3 : k = 12
      · exact ⟨-1, IX, I1, by rw [if_pos c3], by rw [if_pos (by rw [c3]; rfl)], h9⟩
      · have c4 : ¬ nI k = 12 := fun q => c3 ((nI_eq (a := k) (b := 12) (by omega) (by decide)).mp q)
        have q0 : mw I1 27 k x2 26 0 = nI k := by rw [mw_ne (by decide)]; exact e2
        refine ⟨nI (k + 1), _, mw (mw I1 27 k x2) 26 0 (nI (k + 1)), by rw [if_neg c3], ?_, ?_⟩
        · rw [if_neg c4, show (12 : Int32) * nI 0 + nI k = nI k by rw [show (12 : Int32) * nI 0 = nI 0 from rfl, nI_add, Nat.zero_add], fsto_n (by omega) (by decide), flod_n (by decide) (by decide), q0, nI_1, fsto_n (by decide) (by decide), flod_n (by decide) (by decide), mw_eq, pk_us]
        · have hin : gIn x2 0 9 := within_in c2
          unfold GInv GWorld GFix at *
          simp +decide (disch := decide) only [mw_ne, mw_eq, mset_ne, mset_eq, upd_ap, xP_mw, xP_mset, ↓reduceIte] at *
          obtain ⟨hF, h5, ⟨t1, t2, t3, t4, t5, t6, t7, t8, t9, t10⟩, hO⟩ := h9
          rw [e2] at t8
          refine ⟨hF, h5, ⟨t1, t2, t3, t4, t5, t6, t7, t8.add (by omega) (by decide) hin, ?_, t10⟩, hO⟩
          obtain ⟨f1, k2, f2, f3, f4⟩ := t9
          refine ⟨f1, k2, f2, f3, fun i hi => ?_⟩
          have z := f4 i hi
          dsimp only
          rw [if_neg (by omega)]; exact z
  · obtain ⟨e1, k, hk, e2, h3⟩ := h9.2.2.1.2.2.2.2.2.2.2.2.1
    rw [if_neg (show ¬ nI 1 = 0 by decide), tell_a (lim := 12) (k := k) x2 0 _ h9.1.1.2.2.2.2.2.1 (e1.trans e2) hk rfl (by decide)]
    by_cases c1 : x2 = -1
    · rw [if_pos c1, if_pos c1, fsto_n (by decide) (by decide)]
      refine ⟨_, _, _, rfl, rfl, ?_⟩
      unfold GInv GWorld GFix at *
      simp +decide (disch := decide) only [mw_ne, mw_eq, mset_ne, mset_eq, upd_ap, xP_mw, xP_mset, ↓reduceIte] at *
      obtain ⟨hF, h5, ⟨t1, t2, t3, t4, t5, t6, t7, t8, t9, t10⟩, hO⟩ := h9
      exact ⟨hF, h5, ⟨t1, t2, t3, t4, t5, t6, t7, t8, GRow1.none (n := 0) (m := 0), t10⟩, hO⟩
    · rw [if_neg c1, if_neg c1]
      by_cases c2 : F_Gb_within x2 0 9 IX = 0
      · exact ⟨-1, IX, I1, by rw [if_pos c2], by rw [if_pos c2], h9⟩
      rw [if_neg c2, if_neg c2, flod_n (by decide) (by decide), flod_n (by decide) (by decide), e2]
      by_cases c3 : k = 12
      · exact ⟨-1, IX, I1, by rw [if_pos c3], by rw [if_pos (by rw [c3]; rfl)], h9⟩
      · have c4 : ¬ nI k = 12 := fun q => c3 ((nI_eq (a := k) (b := 12) (by omega) (by decide)).mp q)
        have q0 : mw I1 27 (12 + k) x2 26 1 = nI k := by rw [mw_ne (by decide)]; exact e2
        refine ⟨nI (k + 1), _, mw (mw I1 27 (12 + k) x2) 26 1 (nI (k + 1)), by rw [if_neg c3], ?_, ?_⟩
        · rw [if_neg c4, show (12 : Int32) * nI 1 + nI k = nI (12 + k) from nI_add 12 k, fsto_n (by omega) (by decide), flod_n (by decide) (by decide), q0, nI_1, fsto_n (by decide) (by decide), flod_n (by decide) (by decide), mw_eq, pk_us]
        · have hin : gIn x2 0 9 := within_in c2
          unfold GInv GWorld GFix at *
          simp +decide (disch := decide) only [mw_ne, mw_eq, mset_ne, mset_eq, upd_ap, xP_mw, xP_mset, ↓reduceIte] at *
          obtain ⟨hF, h5, ⟨t1, t2, t3, t4, t5, t6, t7, t8, t9, t10⟩, hO⟩ := h9
          rw [e2] at t9
          refine ⟨hF, h5, ⟨t1, t2, t3, t4, t5, t6, t7, ?_, ?_, t10⟩, hO⟩
          · obtain ⟨f1, k2, f2, f3, f4⟩ := t8
            refine ⟨f1, k2, f2, f3, fun i hi => ?_⟩
            have z := f4 i hi
            rw [pk_un (by omega)]; exact z
          · have z := t9.add (x2 := 0) (x3 := 0) (x4 := 0) (by omega) (by decide) hin
            obtain ⟨f1, k2, f2, f3, f4⟩ := z
            refine ⟨f1, k2, f2, f3, fun i hi => ?_⟩
            have z := f4 i hi
            rw [upd_ap] at z
            have e : (if 12 + i = 12 + k then x2 else I1 27 (12 + i)) = if i = k then x2 else I1 27 (12 + i) := by
              by_cases q : i = k
              · rw [if_pos q, if_pos (by omega)]
              · rw [if_neg q, if_neg (by omega)]
            dsimp only
            rw [e]; exact z
