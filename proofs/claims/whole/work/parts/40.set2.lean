/-! set, gives, feed. -/
theorem cs_out {x1 x2 x3 : Int32} {IX I1 : gb_Mem} (c : F_Gb_within x1 0 7 IX = 0) : F_Gb_canSet x1 x2 x3 IX = some 0 ∧ F_Mo_canSet x1 x2 x3 I1 = 0 := by
  have n : ∀ k : Nat, k ≤ 7 → ¬ x1 = nI k := by
    intro k hk q
    subst q
    rw [show F_Gb_within (nI k) 0 7 IX = 1 from within_n (lo := 0) (hi := 7) (by omega) hk (by decide)] at c
    exact absurd c (by decide)
  refine ⟨?_, ?_⟩
  · unfold F_Gb_canSet
    rw [if_pos c]
  · unfold F_Mo_canSet
    rw [show (7 : Int32) = nI 7 from rfl, show (5 : Int32) = nI 5 from rfl, show (6 : Int32) = nI 6 from rfl, if_neg (n 7 (by decide)), if_neg (n 5 (by decide)), if_neg (n 6 (by decide)), if_pos]
    rw [isIn_within _ _ _ _ IX, within_0]
    intro q
    have h7 : F_Gb_within x1 0 7 IX ≠ 0 := within_1.mpr ⟨q.1, Int32.le_trans q.2 (by decide)⟩
    exact h7 c
/-- set, one of its things: what the class writes, what the reference writes -/
theorem set_one {x1 x2 x3 : Int32} {IX IM I1 JX JM : gb_Mem} (hI : mw IM 0 0 0 = I1) (h9 : GInv IX I1) (A B : Prop) [Decidable A] [Decidable B]
    (hcX : F_Gb_canSet x1 x2 x3 IX = if A then some 0 else some (if B then 0 else 1)) (hcM : F_Mo_canSet x1 x2 x3 I1 = if A ∨ B then 0 else 1)
    (hsX : ¬ A → ¬ B → F_Gb_canSet x1 x2 x3 IX = some 1 → F_Gb_set x1 x2 x3 IX = some (1, JX)) (hsM : ¬ A → ¬ B → F_Mo_canSet x1 x2 x3 I1 = 1 → F_Mo_set x1 x2 x3 IM = some (1, JM)) (hG : ¬ A → ¬ B → GInv JX JM) : ∃ r IX2 IM2, F_Gb_set x1 x2 x3 IX = some (r, IX2) ∧ F_Mo_set x1 x2 x3 IM = some (r, IM2) ∧ GInv IX2 IM2 := by
  by_cases c : A ∨ B
  · refine ⟨0, IX, I1, ?_, ?_, h9⟩
    · have : F_Gb_canSet x1 x2 x3 IX = some 0 := by
        rw [hcX]
        by_cases a : A
        · rw [if_pos a]
        · rw [if_neg a, if_pos (c.resolve_left a)]
      unfold F_Gb_set
      rw [this, fbd_s, if_pos rfl]
    · simp only [F_Mo_set, fstf_d, hI]
      rw [hcM, if_pos c, if_pos rfl]
  · have a : ¬ A := fun q => c (Or.inl q)
    have b : ¬ B := fun q => c (Or.inr q)
    exact ⟨1, _, _, hsX a b (by rw [hcX, if_neg a, if_neg b]), hsM a b (by rw [hcM, if_neg c]), hG a b⟩
theorem cm_one {x3 lo hi : Int32} {I1 IX : gb_Mem} (b : Int32) (hb : b = 0 ∨ b = 1) : (if b = 0 then 0 else F_Mo_isIn x3 lo hi I1) = if F_Gb_within x3 lo hi IX = 0 ∨ b = 0 then (0 : Int32) else 1 := by
  rcases hb with rfl | rfl
  · simp
  · rw [if_neg (by decide), isIn_within _ _ _ I1 IX]
    rcases within_b x3 lo hi IX with q | q <;> rw [q] <;> simp
theorem cx_one {x3 lo hi : Int32} {IX : gb_Mem} (b : Int32) (hb : b = 0 ∨ b = 1) : (if F_Gb_within x3 lo hi IX = 0 then some (0 : Int32) else some b) = if F_Gb_within x3 lo hi IX = 0 then some 0 else some (if b = 0 then 0 else 1) := by
  rcases hb with rfl | rfl <;> simp
theorem csX_0 {x2 x3 : Int32} {IX : gb_Mem} : F_Gb_canSet (nI 0) x2 x3 IX = if F_Gb_within x3 0 9 IX = 0 then some 0 else some (F_Gb_within x2 0 11 IX) := rfl
theorem csM_0 {x2 x3 : Int32} {I1 : gb_Mem} : F_Mo_canSet (nI 0) x2 x3 I1 = if F_Mo_isSeat x2 I1 = 0 then 0 else F_Mo_isIn x3 0 9 I1 := rfl
theorem csX_1 {x2 x3 : Int32} {IX : gb_Mem} : F_Gb_canSet (nI 1) x2 x3 IX = if F_Gb_within x3 0 9 IX = 0 then some 0 else some (F_Gb_within x2 0 11 IX) := rfl
theorem csM_1 {x2 x3 : Int32} {I1 : gb_Mem} : F_Mo_canSet (nI 1) x2 x3 I1 = if F_Mo_isSeat x2 I1 = 0 then 0 else F_Mo_isIn x3 0 9 I1 := rfl
theorem csX_2 {x2 x3 : Int32} {IX : gb_Mem} : F_Gb_canSet (nI 2) x2 x3 IX = if F_Gb_within x3 (-9) 9 IX = 0 then some 0 else some (F_Gb_within x2 0 11 IX) := rfl
theorem csM_2 {x2 x3 : Int32} {I1 : gb_Mem} : F_Mo_canSet (nI 2) x2 x3 I1 = if F_Mo_isSeat x2 I1 = 0 then 0 else F_Mo_isIn x3 (-9) 9 I1 := rfl
theorem csX_3 {x2 x3 : Int32} {IX : gb_Mem} : F_Gb_canSet (nI 3) x2 x3 IX = if F_Gb_within x3 0 1 IX = 0 then some 0 else some (F_Gb_within x2 0 11 IX) := rfl
theorem csM_3 {x2 x3 : Int32} {I1 : gb_Mem} : F_Mo_canSet (nI 3) x2 x3 I1 = if F_Mo_isSeat x2 I1 = 0 then 0 else F_Mo_isIn x3 0 1 I1 := rfl
theorem csX_4 {x2 x3 : Int32} {IX : gb_Mem} : F_Gb_canSet (nI 4) x2 x3 IX = if F_Gb_within x3 0 999 IX = 0 then some 0 else some (F_Gb_within x2 0 11 IX) := rfl
theorem csM_4 {x2 x3 : Int32} {I1 : gb_Mem} : F_Mo_canSet (nI 4) x2 x3 I1 = if F_Mo_isSeat x2 I1 = 0 then 0 else F_Mo_isIn x3 0 999 I1 := rfl
theorem csX_5 {x2 x3 : Int32} {IX : gb_Mem} : F_Gb_canSet (nI 5) x2 x3 IX = if F_Gb_within x3 0 99 IX = 0 then some 0 else some (F_Gb_within x2 0 (IX 2 5 - 1) IX) := by
  unfold F_Gb_canSet
  rw [if_neg (show ¬ F_Gb_within (nI 5) 0 7 IX = 0 by rw [show F_Gb_within (nI 5) 0 7 IX = 1 from within_n (lo := 0) (hi := 7) (by decide) (by decide) (by decide)]; decide), if_pos (show nI 5 < 8 by decide), if_neg (show ¬ nI 5 = 2 by decide)]
  unfold J_Gb_canSet_35 fgr
  rw [if_pos (show inb (nI 5) 8 = true from rfl), show gb_gr (nI 5).toNatClampNeg = 99 from rfl, if_neg (show ¬ nI 5 = 7 by decide), if_pos (show 5 ≤ nI 5 by decide)]
theorem csM_5 {x2 x3 : Int32} {I1 : gb_Mem} : F_Mo_canSet (nI 5) x2 x3 I1 = if F_Mo_isBoat x2 I1 = 0 then 0 else if F_Mo_isIn x3 0 99 I1 = 0 then 0 else 1 := by
  unfold F_Mo_canSet
  rw [if_neg (by decide), if_pos (show nI 5 = 5 from rfl)]
  unfold J_Mo_canSet_26 J_Mo_canSet_49
  rw [if_pos (show nI 5 = 5 from rfl)]
theorem csX_6 {x2 x3 : Int32} {IX : gb_Mem} : F_Gb_canSet (nI 6) x2 x3 IX = if F_Gb_within x3 0 9 IX = 0 then some 0 else some (F_Gb_within x2 0 (IX 2 5 - 1) IX) := by
  unfold F_Gb_canSet
  rw [if_neg (show ¬ F_Gb_within (nI 6) 0 7 IX = 0 by rw [show F_Gb_within (nI 6) 0 7 IX = 1 from within_n (lo := 0) (hi := 7) (by decide) (by decide) (by decide)]; decide), if_pos (show nI 6 < 8 by decide), if_neg (show ¬ nI 6 = 2 by decide)]
  unfold J_Gb_canSet_35 fgr
  rw [if_pos (show inb (nI 6) 8 = true from rfl), show gb_gr (nI 6).toNatClampNeg = 9 from rfl, if_neg (show ¬ nI 6 = 7 by decide), if_pos (show 5 ≤ nI 6 by decide)]
theorem csM_6 {x2 x3 : Int32} {I1 : gb_Mem} : F_Mo_canSet (nI 6) x2 x3 I1 = if F_Mo_isBoat x2 I1 = 0 then 0 else if F_Mo_isIn x3 0 9 I1 = 0 then 0 else 1 := by
  unfold F_Mo_canSet
  rw [if_neg (by decide), if_neg (by decide), if_pos (show nI 6 = 6 from rfl)]
  unfold J_Mo_canSet_26 J_Mo_canSet_49
  rw [if_neg (show ¬ nI 6 = 5 by decide)]
theorem sim_set : S_set GInv := by
  intro x1 x2 x3 IX IM h
  have h9 := ginv_told (v := 0) h
  generalize hI : mw IM 0 0 0 = I1 at h9
  have hT := h9.2.2.1.1
  have hR := h9.2.2.1.2.1
  obtain ⟨n, en, hn, -⟩ := gIn_n hR.1
  have e5 : IX 2 5 = nI n := hT.1.2.2.2.2.2.trans en
  by_cases c : F_Gb_within x1 0 7 IX = 0
  · obtain ⟨q1, q2⟩ := cs_out (x2 := x2) (x3 := x3) (I1 := I1) c
    refine ⟨0, IX, I1, ?_, ?_, h9⟩
    · unfold F_Gb_set; rw [q1, fbd_s, if_pos rfl]
    · simp only [F_Mo_set, fstf_d, hI]; rw [q2, if_pos rfl]
  obtain ⟨w, rfl, hw⟩ := wi_num (m := 7) c (by decide)
  have hseat : ∀ {P : Prop}, ¬ F_Gb_within x2 0 11 IX = 0 → (∀ s, x2 = nI s → s < 12 → P) → P := by
    intro P hq hp
    obtain ⟨s, e, hs⟩ := wi_num (m := 11) hq (by decide)
    exact hp s e (by omega)
  have hboat : ∀ {P : Prop}, ¬ F_Gb_within x2 0 (nI n - 1) IX = 0 → (∀ s, x2 = nI s → s < 8 → P) → P := by
    intro P hq hp
    cases n with
    | zero =>
      exfalso
      have := within_in hq
      unfold gIn at this
      rw [show (nI 0 - 1 : Int32).toInt = -1 from rfl, show (0 : Int32).toInt = 0 from rfl] at this
      omega
    | succ n =>
      rw [nI_pred] at hq
      obtain ⟨s, e, hs⟩ := wi_num hq (by omega)
      exact hp s e (by omega)
  have hsb : ∀ (y : Int32), F_Mo_isSeat y I1 = F_Gb_within y 0 11 IX := fun y => isSeat_w y I1 IX
  have hbb : ∀ (y : Int32), F_Mo_isBoat y I1 = F_Gb_within y 0 (nI n - 1) IX := fun y => isBoat_w I1 IX en (by omega)
  have hcase : w = 0 ∨ w = 1 ∨ w = 2 ∨ w = 3 ∨ w = 4 ∨ w = 5 ∨ w = 6 ∨ w = 7 := by omega
  rcases hcase with rfl | rfl | rfl | rfl | rfl | rfl | rfl | rfl
  · by_cases bb : F_Gb_within x2 0 11 IX = 0
    · refine set_one (JX := IX) (JM := I1) hI h9 (F_Gb_within x3 0 9 IX = 0) (F_Gb_within x2 0 11 IX = 0) ?_ ?_ (fun _ q => absurd bb q) (fun _ q => absurd bb q) (fun _ q => absurd bb q)
      · rw [csX_0, cx_one _ (within_b _ _ _ _)]
      · rw [csM_0, hsb, cm_one (IX := IX) _ (within_b _ _ _ _)]
    · refine hseat bb (fun s e hs => ?_)
      subst e
      refine set_one (JX := mw (mw IX 69 3 0) 3 (12 * 0 + s) x3) (JM := mw (mw I1 4 s (x3 - 5)) 0 3 0) hI h9 (F_Gb_within x3 0 9 IX = 0) (F_Gb_within (nI s) 0 11 IX = 0) ?_ ?_ ?_ ?_ ?_
      · rw [csX_0, cx_one _ (within_b _ _ _ _)]
      · rw [csM_0, hsb, cm_one (IX := IX) _ (within_b _ _ _ _)]
      · intro a b hc
        unfold F_Gb_set
        rw [hc, fbd_s, if_neg (by decide), show F_Pa_forget IX = some (mw IX 69 3 0) from rfl, fbd_s]
        rw [if_neg (by decide), if_neg (by decide), if_neg (by decide), show F_Ta_putSeat 2 (nI 0) (nI s) x3 (mw IX 69 3 0) = some (mw (mw IX 69 3 0) 3 (12 * 0 + s) x3) from (putSeat_n (w := 0) (by omega) hs)]
        rfl
      · intro a b hc
        simp only [F_Mo_set, fstf_d, hI, hc]
        simp +decide only [↓reduceIte, J_Mo_set_30, J_Mo_set_42, J_Mo_set_57, J_Mo_set_69, J_Mo_set_84, J_Mo_set_99, J_Mo_set_115, J_Mo_set_128]
        rw [fsto_n (by omega) (by decide)]
        rfl
      · intro a b
        have r3 : gIn x3 0 9 := within_in a
        refine ginv_tab h9 (fun c d1 d2 => ?_) ?_ ?_ (fun c d1 d2 d3 => ?_) (fun j d1 d2 d3 => ?_) ?_ ?_ ?_ ?_
        · rw [mw_ne (by omega), mw_ne d2]
        · simp +decide (disch := decide) only [mw_ne, mw_eq, mset_ne, mset_eq, upd_ap, xP_mw, xP_mset, ↓reduceIte]
        · simp +decide (disch := decide) only [mw_ne, mw_eq, mset_ne, mset_eq, upd_ap, xP_mw, xP_mset, ↓reduceIte]
        · rw [mw_ne d1, mw_ne (by omega)]
        · rw [mw_eq, pk_un d2, mw_ne (by decide)]
        · simp +decide (disch := decide) only [mw_ne, mw_eq, mset_ne, mset_eq, upd_ap, xP_mw, xP_mset, ↓reduceIte]
        · rw [mw_ne (by decide), mw_ne (by decide)]
        · simp +decide (disch := decide) only [mw_ne, mw_eq]
          rw [pk_un (by decide)]
          rw [show 12 * 0 + s = s by omega]; exact hT.steady hs (by rw [Int32.sub_add_cancel])
        · simp +decide (disch := decide) only [mw_ne, mw_eq]
          rw [pk_un (by decide)]
          obtain ⟨g1, g2, g3⟩ := hR
          refine ⟨g1, fun s9 hs9 => ⟨gIn_upd (fun _ => ?_) (g2 s9 hs9).1, (g2 s9 hs9).2⟩, g3⟩
          obtain ⟨j, rfl, hj, -⟩ := gIn_n r3
          unfold gIn
          rw [show nI j - 5 = nI j - nI 5 from rfl, pk_sub_toInt (by omega) (by decide)]
          omega
  · by_cases bb : F_Gb_within x2 0 11 IX = 0
    · refine set_one (JX := IX) (JM := I1) hI h9 (F_Gb_within x3 0 9 IX = 0) (F_Gb_within x2 0 11 IX = 0) ?_ ?_ (fun _ q => absurd bb q) (fun _ q => absurd bb q) (fun _ q => absurd bb q)
      · rw [csX_1, cx_one _ (within_b _ _ _ _)]
      · rw [csM_1, hsb, cm_one (IX := IX) _ (within_b _ _ _ _)]
    · refine hseat bb (fun s e hs => ?_)
      subst e
      refine set_one (JX := mw (mw IX 69 3 0) 3 (12 * 1 + s) x3) (JM := mw (mw I1 5 s x3) 0 3 0) hI h9 (F_Gb_within x3 0 9 IX = 0) (F_Gb_within (nI s) 0 11 IX = 0) ?_ ?_ ?_ ?_ ?_
      · rw [csX_1, cx_one _ (within_b _ _ _ _)]
      · rw [csM_1, hsb, cm_one (IX := IX) _ (within_b _ _ _ _)]
      · intro a b hc
        unfold F_Gb_set
        rw [hc, fbd_s, if_neg (by decide), show F_Pa_forget IX = some (mw IX 69 3 0) from rfl, fbd_s]
        rw [if_neg (by decide), if_neg (by decide), if_neg (by decide), show F_Ta_putSeat 2 (nI 1) (nI s) x3 (mw IX 69 3 0) = some (mw (mw IX 69 3 0) 3 (12 * 1 + s) x3) from (putSeat_n (w := 1) (by omega) hs)]
        rfl
      · intro a b hc
        simp only [F_Mo_set, fstf_d, hI, hc]
        simp +decide only [↓reduceIte, J_Mo_set_30, J_Mo_set_42, J_Mo_set_57, J_Mo_set_69, J_Mo_set_84, J_Mo_set_99, J_Mo_set_115, J_Mo_set_128]
        rw [fsto_n (by omega) (by decide)]
        rfl
      · intro a b
        have r3 : gIn x3 0 9 := within_in a
        refine ginv_tab h9 (fun c d1 d2 => ?_) ?_ ?_ (fun c d1 d2 d3 => ?_) (fun j d1 d2 d3 => ?_) ?_ ?_ ?_ ?_
        · rw [mw_ne (by omega), mw_ne d2]
        · simp +decide (disch := decide) only [mw_ne, mw_eq, mset_ne, mset_eq, upd_ap, xP_mw, xP_mset, ↓reduceIte]
        · simp +decide (disch := decide) only [mw_ne, mw_eq, mset_ne, mset_eq, upd_ap, xP_mw, xP_mset, ↓reduceIte]
        · rw [mw_ne d1, mw_ne (by omega)]
        · rw [mw_eq, pk_un d2, mw_ne (by decide)]
        · simp +decide (disch := decide) only [mw_ne, mw_eq, mset_ne, mset_eq, upd_ap, xP_mw, xP_mset, ↓reduceIte]
        · rw [mw_ne (by decide), mw_ne (by decide)]
        · simp +decide (disch := decide) only [mw_ne, mw_eq]
          rw [pk_un (by decide)]
          exact hT.thirst hs
        · simp +decide (disch := decide) only [mw_ne, mw_eq]
          rw [pk_un (by decide)]
          exact hR
  · by_cases bb : F_Gb_within x2 0 11 IX = 0
    · refine set_one (JX := IX) (JM := I1) hI h9 (F_Gb_within x3 (-9) 9 IX = 0) (F_Gb_within x2 0 11 IX = 0) ?_ ?_ (fun _ q => absurd bb q) (fun _ q => absurd bb q) (fun _ q => absurd bb q)
      · rw [csX_2, cx_one _ (within_b _ _ _ _)]
      · rw [csM_2, hsb, cm_one (IX := IX) _ (within_b _ _ _ _)]
    · refine hseat bb (fun s e hs => ?_)
      subst e
      refine set_one (JX := mw (mw IX 69 3 0) 3 (12 * 2 + s) x3) (JM := mw (mw I1 1 (6 + s) x3) 0 3 0) hI h9 (F_Gb_within x3 (-9) 9 IX = 0) (F_Gb_within (nI s) 0 11 IX = 0) ?_ ?_ ?_ ?_ ?_
      · rw [csX_2, cx_one _ (within_b _ _ _ _)]
      · rw [csM_2, hsb, cm_one (IX := IX) _ (within_b _ _ _ _)]
      · intro a b hc
        unfold F_Gb_set
        rw [hc, fbd_s, if_neg (by decide), show F_Pa_forget IX = some (mw IX 69 3 0) from rfl, fbd_s]
        rw [if_neg (by decide), if_neg (by decide), if_neg (by decide), show F_Ta_putSeat 2 (nI 2) (nI s) x3 (mw IX 69 3 0) = some (mw (mw IX 69 3 0) 3 (12 * 2 + s) x3) from (putSeat_n (w := 2) (by omega) hs)]
        rfl
      · intro a b hc
        simp only [F_Mo_set, fstf_d, hI, hc]
        simp +decide only [↓reduceIte, J_Mo_set_30, J_Mo_set_42, J_Mo_set_57, J_Mo_set_69, J_Mo_set_84, J_Mo_set_99, J_Mo_set_115, J_Mo_set_128]
        rw [show (6 : Int32) + nI s = nI (6 + s) from nI_add 6 s, fsto_n (by omega) (by decide)]
        rfl
      · intro a b
        have r3 : gIn x3 (-9) 9 := within_in a
        refine ginv_tab h9 (fun c d1 d2 => ?_) ?_ ?_ (fun c d1 d2 d3 => ?_) (fun j d1 d2 d3 => ?_) ?_ ?_ ?_ ?_
        · rw [mw_ne (by omega), mw_ne d2]
        · simp +decide (disch := decide) only [mw_ne, mw_eq, mset_ne, mset_eq, upd_ap, xP_mw, xP_mset, ↓reduceIte]
        · simp +decide (disch := decide) only [mw_ne, mw_eq, mset_ne, mset_eq, upd_ap, xP_mw, xP_mset, ↓reduceIte]
        · rw [mw_ne d1, mw_ne (by omega)]
        · rw [mw_eq, pk_un d2, mw_ne (by decide)]
        · simp +decide (disch := decide) only [mw_ne, mw_eq, mset_ne, mset_eq, upd_ap, xP_mw, xP_mset, ↓reduceIte]
        · rw [mw_ne (by decide), mw_eq, pk_un (by omega)]
        · simp +decide (disch := decide) only [mw_ne, mw_eq]
          rw [pk_un (by decide)]
          exact hT.love hs
        · simp +decide (disch := decide) only [mw_ne, mw_eq]
          rw [pk_un (by decide)]
          exact hR.put0 (by omega)
  · by_cases bb : F_Gb_within x2 0 11 IX = 0
    · refine set_one (JX := IX) (JM := I1) hI h9 (F_Gb_within x3 0 1 IX = 0) (F_Gb_within x2 0 11 IX = 0) ?_ ?_ (fun _ q => absurd bb q) (fun _ q => absurd bb q) (fun _ q => absurd bb q)
      · rw [csX_3, cx_one _ (within_b _ _ _ _)]
      · rw [csM_3, hsb, cm_one (IX := IX) _ (within_b _ _ _ _)]
    · refine hseat bb (fun s e hs => ?_)
      subst e
      refine set_one (JX := mw (mw IX 69 3 0) 3 (12 * 3 + s) x3) (JM := mw (mw I1 6 s x3) 0 3 0) hI h9 (F_Gb_within x3 0 1 IX = 0) (F_Gb_within (nI s) 0 11 IX = 0) ?_ ?_ ?_ ?_ ?_
      · rw [csX_3, cx_one _ (within_b _ _ _ _)]
      · rw [csM_3, hsb, cm_one (IX := IX) _ (within_b _ _ _ _)]
      · intro a b hc
        unfold F_Gb_set
        rw [hc, fbd_s, if_neg (by decide), show F_Pa_forget IX = some (mw IX 69 3 0) from rfl, fbd_s]
        rw [if_neg (by decide), if_neg (by decide), if_neg (by decide), show F_Ta_putSeat 2 (nI 3) (nI s) x3 (mw IX 69 3 0) = some (mw (mw IX 69 3 0) 3 (12 * 3 + s) x3) from (putSeat_n (w := 3) (by omega) hs)]
        rfl
      · intro a b hc
        simp only [F_Mo_set, fstf_d, hI, hc]
        simp +decide only [↓reduceIte, J_Mo_set_30, J_Mo_set_42, J_Mo_set_57, J_Mo_set_69, J_Mo_set_84, J_Mo_set_99, J_Mo_set_115, J_Mo_set_128]
        rw [fsto_n (by omega) (by decide)]
        rfl
      · intro a b
        have r3 : gIn x3 0 1 := within_in a
        refine ginv_tab h9 (fun c d1 d2 => ?_) ?_ ?_ (fun c d1 d2 d3 => ?_) (fun j d1 d2 d3 => ?_) ?_ ?_ ?_ ?_
        · rw [mw_ne (by omega), mw_ne d2]
        · simp +decide (disch := decide) only [mw_ne, mw_eq, mset_ne, mset_eq, upd_ap, xP_mw, xP_mset, ↓reduceIte]
        · simp +decide (disch := decide) only [mw_ne, mw_eq, mset_ne, mset_eq, upd_ap, xP_mw, xP_mset, ↓reduceIte]
        · rw [mw_ne d1, mw_ne (by omega)]
        · rw [mw_eq, pk_un d2, mw_ne (by decide)]
        · simp +decide (disch := decide) only [mw_ne, mw_eq, mset_ne, mset_eq, upd_ap, xP_mw, xP_mset, ↓reduceIte]
        · rw [mw_ne (by decide), mw_ne (by decide)]
        · simp +decide (disch := decide) only [mw_ne, mw_eq]
          rw [pk_un (by decide)]
          exact hT.pirate hs
        · simp +decide (disch := decide) only [mw_ne, mw_eq]
          rw [pk_un (by decide)]
          obtain ⟨g1, g2, g3⟩ := hR
          exact ⟨g1, fun s9 hs9 => ⟨(g2 s9 hs9).1, gIn_upd (fun _ => r3) (g2 s9 hs9).2.1, (g2 s9 hs9).2.2⟩, g3⟩
  · by_cases bb : F_Gb_within x2 0 11 IX = 0
    · refine set_one (JX := IX) (JM := I1) hI h9 (F_Gb_within x3 0 999 IX = 0) (F_Gb_within x2 0 11 IX = 0) ?_ ?_ (fun _ q => absurd bb q) (fun _ q => absurd bb q) (fun _ q => absurd bb q)
      · rw [csX_4, cx_one _ (within_b _ _ _ _)]
      · rw [csM_4, hsb, cm_one (IX := IX) _ (within_b _ _ _ _)]
    · refine hseat bb (fun s e hs => ?_)
      subst e
      refine set_one (JX := mw (mw IX 69 3 0) 3 (12 * 4 + s) x3) (JM := mw (mw I1 1 (18 + s) x3) 0 3 0) hI h9 (F_Gb_within x3 0 999 IX = 0) (F_Gb_within (nI s) 0 11 IX = 0) ?_ ?_ ?_ ?_ ?_
      · rw [csX_4, cx_one _ (within_b _ _ _ _)]
      · rw [csM_4, hsb, cm_one (IX := IX) _ (within_b _ _ _ _)]
      · intro a b hc
        unfold F_Gb_set
        rw [hc, fbd_s, if_neg (by decide), show F_Pa_forget IX = some (mw IX 69 3 0) from rfl, fbd_s]
        rw [if_neg (by decide), if_neg (by decide), if_neg (by decide), show F_Ta_putSeat 2 (nI 4) (nI s) x3 (mw IX 69 3 0) = some (mw (mw IX 69 3 0) 3 (12 * 4 + s) x3) from (putSeat_n (w := 4) (by omega) hs)]
        rfl
      · intro a b hc
        simp only [F_Mo_set, fstf_d, hI, hc]
        simp +decide only [↓reduceIte, J_Mo_set_30, J_Mo_set_42, J_Mo_set_57, J_Mo_set_69, J_Mo_set_84, J_Mo_set_99, J_Mo_set_115, J_Mo_set_128]
        rw [show (18 : Int32) + nI s = nI (18 + s) from nI_add 18 s, fsto_n (by omega) (by decide)]
        rfl
      · intro a b
        have r3 : gIn x3 0 999 := within_in a
        refine ginv_tab h9 (fun c d1 d2 => ?_) ?_ ?_ (fun c d1 d2 d3 => ?_) (fun j d1 d2 d3 => ?_) ?_ ?_ ?_ ?_
        · rw [mw_ne (by omega), mw_ne d2]
        · simp +decide (disch := decide) only [mw_ne, mw_eq, mset_ne, mset_eq, upd_ap, xP_mw, xP_mset, ↓reduceIte]
        · simp +decide (disch := decide) only [mw_ne, mw_eq, mset_ne, mset_eq, upd_ap, xP_mw, xP_mset, ↓reduceIte]
        · rw [mw_ne d1, mw_ne (by omega)]
        · rw [mw_eq, pk_un d2, mw_ne (by decide)]
        · simp +decide (disch := decide) only [mw_ne, mw_eq, mset_ne, mset_eq, upd_ap, xP_mw, xP_mset, ↓reduceIte]
        · rw [mw_ne (by decide), mw_eq, pk_un (by omega)]
        · simp +decide (disch := decide) only [mw_ne, mw_eq]
          rw [pk_un (by decide)]
          exact hT.stain hs
        · simp +decide (disch := decide) only [mw_ne, mw_eq]
          rw [pk_un (by decide)]
          exact hR.put (fun _ _ _ => r3) (fun _ _ q => by omega) (fun _ _ q => by omega) (fun _ _ q => by omega)
  · by_cases bb : F_Gb_within x2 0 (nI n - 1) IX = 0
    · refine set_one (JX := IX) (JM := I1) hI h9 (F_Gb_within x3 0 99 IX = 0) (F_Gb_within x2 0 (nI n - 1) IX = 0) ?_ ?_ (fun _ q => absurd bb q) (fun _ q => absurd bb q) (fun _ q => absurd bb q)
      · rw [csX_5, e5, cx_one _ (within_b _ _ _ _)]
      · rw [csM_5, hbb, show (if F_Mo_isIn x3 0 99 I1 = 0 then (0 : Int32) else 1) = F_Mo_isIn x3 0 99 I1 by (rcases within_b x3 0 99 I1 with q | q <;> rw [isIn_within _ _ _ I1 I1, q] <;> rfl), cm_one (IX := IX) _ (within_b _ _ _ _)]
    · refine hboat bb (fun s e hs => ?_)
      subst e
      refine set_one (JX := mw (mw IX 69 3 0) 4 (8 * 1 + s) x3) (JM := mw (mw I1 1 (40 + s) x3) 0 3 0) hI h9 (F_Gb_within x3 0 99 IX = 0) (F_Gb_within (nI s) 0 (nI n - 1) IX = 0) ?_ ?_ ?_ ?_ ?_
      · rw [csX_5, e5, cx_one _ (within_b _ _ _ _)]
      · rw [csM_5, hbb, show (if F_Mo_isIn x3 0 99 I1 = 0 then (0 : Int32) else 1) = F_Mo_isIn x3 0 99 I1 by (rcases within_b x3 0 99 I1 with q | q <;> rw [isIn_within _ _ _ I1 I1, q] <;> rfl), cm_one (IX := IX) _ (within_b _ _ _ _)]
      · intro a b hc
        unfold F_Gb_set
        rw [hc, fbd_s, if_neg (by decide), show F_Pa_forget IX = some (mw IX 69 3 0) from rfl, fbd_s]
        rw [if_neg (by decide), if_pos (show nI 5 = 5 from rfl), show F_Ta_putBoat 2 1 (nI s) x3 (mw IX 69 3 0) = some (mw (mw IX 69 3 0) 4 (8 * 1 + s) x3) from (putBoat_n (w := 1) (by omega) hs)]
        rfl
      · intro a b hc
        simp only [F_Mo_set, fstf_d, hI, hc]
        simp +decide only [↓reduceIte, J_Mo_set_30, J_Mo_set_42, J_Mo_set_57, J_Mo_set_69, J_Mo_set_84, J_Mo_set_99, J_Mo_set_115, J_Mo_set_128]
        rw [show (40 : Int32) + nI s = nI (40 + s) from nI_add 40 s, fsto_n (by omega) (by decide)]
        rfl
      · intro a b
        have r3 : gIn x3 0 99 := within_in a
        refine ginv_tab h9 (fun c d1 d2 => ?_) ?_ ?_ (fun c d1 d2 d3 => ?_) (fun j d1 d2 d3 => ?_) ?_ ?_ ?_ ?_
        · rw [mw_ne (by omega), mw_ne d2]
        · simp +decide (disch := decide) only [mw_ne, mw_eq, mset_ne, mset_eq, upd_ap, xP_mw, xP_mset, ↓reduceIte]
        · simp +decide (disch := decide) only [mw_ne, mw_eq, mset_ne, mset_eq, upd_ap, xP_mw, xP_mset, ↓reduceIte]
        · rw [mw_ne d1, mw_ne (by omega)]
        · rw [mw_eq, pk_un d2, mw_ne (by decide)]
        · simp +decide (disch := decide) only [mw_ne, mw_eq, mset_ne, mset_eq, upd_ap, xP_mw, xP_mset, ↓reduceIte]
        · rw [mw_ne (by decide), mw_eq, pk_un (by omega)]
        · simp +decide (disch := decide) only [mw_ne, mw_eq]
          rw [pk_un (by decide)]
          exact hT.pb (w := 1) (by omega) (by omega) hs
        · simp +decide (disch := decide) only [mw_ne, mw_eq]
          rw [pk_un (by decide)]
          exact hR.put (fun _ _ q => by omega) (fun _ _ q => by omega) (fun _ _ q => by omega) (fun _ _ _ => r3)
  · by_cases bb : F_Gb_within x2 0 (nI n - 1) IX = 0
    · refine set_one (JX := IX) (JM := I1) hI h9 (F_Gb_within x3 0 9 IX = 0) (F_Gb_within x2 0 (nI n - 1) IX = 0) ?_ ?_ (fun _ q => absurd bb q) (fun _ q => absurd bb q) (fun _ q => absurd bb q)
      · rw [csX_6, e5, cx_one _ (within_b _ _ _ _)]
      · rw [csM_6, hbb, show (if F_Mo_isIn x3 0 9 I1 = 0 then (0 : Int32) else 1) = F_Mo_isIn x3 0 9 I1 by (rcases within_b x3 0 9 I1 with q | q <;> rw [isIn_within _ _ _ I1 I1, q] <;> rfl), cm_one (IX := IX) _ (within_b _ _ _ _)]
    · refine hboat bb (fun s e hs => ?_)
      subst e
      refine set_one (JX := mw (mw IX 69 3 0) 4 (8 * 4 + s) x3) (JM := mw (mw I1 1 (64 + s) x3) 0 3 0) hI h9 (F_Gb_within x3 0 9 IX = 0) (F_Gb_within (nI s) 0 (nI n - 1) IX = 0) ?_ ?_ ?_ ?_ ?_
      · rw [csX_6, e5, cx_one _ (within_b _ _ _ _)]
      · rw [csM_6, hbb, show (if F_Mo_isIn x3 0 9 I1 = 0 then (0 : Int32) else 1) = F_Mo_isIn x3 0 9 I1 by (rcases within_b x3 0 9 I1 with q | q <;> rw [isIn_within _ _ _ I1 I1, q] <;> rfl), cm_one (IX := IX) _ (within_b _ _ _ _)]
      · intro a b hc
        unfold F_Gb_set
        rw [hc, fbd_s, if_neg (by decide), show F_Pa_forget IX = some (mw IX 69 3 0) from rfl, fbd_s]
        rw [if_neg (by decide), if_neg (by decide), if_pos (show nI 6 = 6 from rfl), show F_Ta_putBoat 2 4 (nI s) x3 (mw IX 69 3 0) = some (mw (mw IX 69 3 0) 4 (8 * 4 + s) x3) from (putBoat_n (w := 4) (by omega) hs)]
        rfl
      · intro a b hc
        simp only [F_Mo_set, fstf_d, hI, hc]
        simp +decide only [↓reduceIte, J_Mo_set_30, J_Mo_set_42, J_Mo_set_57, J_Mo_set_69, J_Mo_set_84, J_Mo_set_99, J_Mo_set_115, J_Mo_set_128]
        rw [show (64 : Int32) + nI s = nI (64 + s) from nI_add 64 s, fsto_n (by omega) (by decide)]
        rfl
      · intro a b
        have r3 : gIn x3 0 9 := within_in a
        refine ginv_tab h9 (fun c d1 d2 => ?_) ?_ ?_ (fun c d1 d2 d3 => ?_) (fun j d1 d2 d3 => ?_) ?_ ?_ ?_ ?_
        · rw [mw_ne (by omega), mw_ne d2]
        · simp +decide (disch := decide) only [mw_ne, mw_eq, mset_ne, mset_eq, upd_ap, xP_mw, xP_mset, ↓reduceIte]
        · simp +decide (disch := decide) only [mw_ne, mw_eq, mset_ne, mset_eq, upd_ap, xP_mw, xP_mset, ↓reduceIte]
        · rw [mw_ne d1, mw_ne (by omega)]
        · rw [mw_eq, pk_un d2, mw_ne (by decide)]
        · simp +decide (disch := decide) only [mw_ne, mw_eq, mset_ne, mset_eq, upd_ap, xP_mw, xP_mset, ↓reduceIte]
        · rw [mw_ne (by decide), mw_eq, pk_un (by omega)]
        · simp +decide (disch := decide) only [mw_ne, mw_eq]
          rw [pk_un (by decide)]
          exact hT.pb (w := 4) (by omega) (by omega) hs
        · simp +decide (disch := decide) only [mw_ne, mw_eq]
          rw [pk_un (by decide)]
          exact hR.put0 (by omega)
  · -- fog
    refine set_one (JX := mw (mw IX 69 3 0) 2 3 x3) (JM := mw (mw I1 1 5 x3) 0 3 0) hI h9 (F_Gb_within x3 0 9 IX = 0) False ?_ ?_ ?_ ?_ ?_
    · rw [show F_Gb_canSet (nI 7) x2 x3 IX = if F_Gb_within x3 0 9 IX = 0 then some 0 else some 1 from rfl, if_neg (fun q : False => q)]
    · rw [show F_Mo_canSet (nI 7) x2 x3 I1 = F_Mo_isIn x3 0 9 I1 from rfl, isIn_within _ _ _ I1 IX]
      simp only [or_false]
      rcases within_b x3 0 9 IX with q | q <;> rw [q] <;> simp
    · intro a b hc
      unfold F_Gb_set
      rw [hc]
      rfl
    · intro a b hc
      simp only [F_Mo_set, fstf_d, hI, hc]
      rfl
    · intro a b
      refine ginv_tab h9 (fun c d1 d2 => ?_) ?_ ?_ (fun c d1 d2 d3 => ?_) (fun j d1 d2 d3 => ?_) ?_ ?_ ?_ ?_
      · rw [mw_ne (by omega), mw_ne d2]
      · simp +decide (disch := decide) only [mw_ne, mw_eq, mset_ne, mset_eq, upd_ap, xP_mw, xP_mset, ↓reduceIte]
      · simp +decide (disch := decide) only [mw_ne, mw_eq, mset_ne, mset_eq, upd_ap, xP_mw, xP_mset, ↓reduceIte]
      · rw [mw_ne d1, mw_ne d2]
      · rw [mw_eq, pk_un d2, mw_ne (by decide)]
      · simp +decide (disch := decide) only [mw_ne, mw_eq, mset_ne, mset_eq, upd_ap, xP_mw, xP_mset, ↓reduceIte]
      · simp +decide (disch := decide) only [mw_ne, mw_eq, mset_ne, mset_eq, upd_ap, xP_mw, xP_mset, ↓reduceIte]
      · simp +decide (disch := decide) only [mw_ne, mw_eq]
        rw [pk_un (by decide)]
        exact hT.num (by omega)
      · simp +decide (disch := decide) only [mw_ne, mw_eq]
        rw [pk_un (by decide)]
        exact hR.put0 (by omega)
/-- a row of eight emptied -/
theorem mset_mw {I : gb_Mem} {a k : Nat} {v : Int32} {f : Nat → Int32} : mset (mw I a k v) a f = mset I a f := by
  funext c
  by_cases h : c = a
  · subst h; rw [mset_eq, mset_eq]
  · rw [mset_ne h, mset_ne h, mw_ne h]
theorem mset_self {I : gb_Mem} {a : Nat} {f : Nat → Int32} (h : f = I a) : mset I a f = I := by
  funext c
  by_cases hc : c = a
  · subst hc; rw [mset_eq, h]
  · rw [mset_ne hc]
theorem gives_0 : ∀ m i f (I : gb_Mem), i + m = 8 → m < f → L_Mo_gives_17 f (nI i) I = some (mset I 34 (fun j => if i ≤ j ∧ j < 8 then 0 else I 34 j)) := by
  intro m
  induction m with
  | zero =>
    intro i f I hi hf
    obtain ⟨f, rfl⟩ : ∃ g, f = g + 1 := ⟨f - 1, by omega⟩
    simp only [L_Mo_gives_17]
    rw [if_pos (show 8 ≤ nI i from nI_le (a := 8) (by omega) (by omega)), mset_self]
    funext j
    rw [if_neg (by omega)]
  | succ m ih =>
    intro i f I hi hf
    obtain ⟨f, rfl⟩ : ∃ g, f = g + 1 := ⟨f - 1, by omega⟩
    simp only [L_Mo_gives_17]
    rw [if_neg (show ¬ 8 ≤ nI i from nI_ge (b := 8) (by omega) (by omega)), fsto_n (by omega) (by decide), nI_1, ih (i + 1) f _ (by omega) (by omega), mset_mw]
    congr 2
    funext j
    rw [mw_eq, upd_ap]
    by_cases c : i ≤ j ∧ j < 8
    · rw [if_pos c]
      by_cases c2 : j = i
      · rw [if_neg (by omega), if_pos c2]
      · rw [if_pos (by omega)]
    · rw [if_neg c, if_neg (by omega), if_neg (by omega)]
theorem GGiv.none {c d : Nat → Int32} : GGiv 0 c 0 (fun j => if 0 ≤ j ∧ j < 8 then 0 else d j) := by
  refine ⟨rfl, 0, by omega, rfl, fun i hi => absurd hi (Nat.not_lt_zero i), fun a ha => ?_⟩
  dsimp only
  rw [if_pos ⟨Nat.zero_le a, ha⟩]
  exact ⟨by decide, fun j hj => by rw [show (0 : Int32).toBitVec.toNat = 0 from rfl, Nat.zero_testBit]; rfl⟩
theorem gPair_up {c : Nat → Int32} {k : Nat} {x1 x2 x3 x4 a j : Int32} : gPair (up4 c k x1 x2 x3 x4) a j (k + 1) = ((x1 == a && x2 == j) || gPair c a j k) := by
  have h : ∀ i, i ≤ k → gPair (up4 c k x1 x2 x3 x4) a j i = gPair c a j i := by
    intro i
    induction i with
    | zero => intro _; rfl
    | succ i ih =>
      intro hi
      simp only [gPair]
      rw [ih (by omega), up4_lt (by omega), up4_lt (by omega)]
  simp only [gPair]
  rw [h k (Nat.le_refl k), up4_0, up4_1]
theorem GGiv.add {n : Int32} {c d : Nat → Int32} {k a b : Nat} (h : GGiv n c (nI k) d) (hk : k < 16) (ha : a < 8) (hb : b < 8) (hab : a ≠ b) : GGiv (nI (k + 1)) (up4 c k (nI a) (nI b) 0 0) (nI (k + 1)) (upd d a (d a ||| (1 <<< (nI b &&& 31)))) := by
  obtain ⟨-, k2, h2, e2, h3, h4⟩ := h
  have : k = k2 := (nI_eq (by omega) (by omega)).mp e2
  subst this
  refine ⟨rfl, k + 1, by omega, rfl, fun i hi => ?_, fun a9 ha9 => ?_⟩
  · by_cases hik : i = k
    · subst hik
      rw [up4_0, up4_1]
      exact ⟨(gIn_nI (by omega)).mpr ⟨by omega, by omega⟩, (gIn_nI (by omega)).mpr ⟨by omega, by omega⟩, fun q => hab ((nI_eq (by omega) (by omega)).mp q)⟩
    · rw [up4_lt (by omega), up4_lt (by omega)]
      exact h3 i (by omega)
  · have key : ∀ j, j < 32 → tb (upd d a (d a ||| (1 <<< (nI b &&& 31))) a9) j = (tb (d a9) j || decide (a9 = a ∧ j = b)) := by
      intro j hj
      rw [upd_ap]
      by_cases c : a9 = a
      · subst c
        rw [if_pos rfl, tb_or, tb_one j (by omega)]
        simp
      · rw [if_neg c]
        simp [c]
    have hlow : ∀ j, 8 ≤ j → tb (d a9) j = false := fun j hj => tb_lt (n := 8) (h4 a9 ha9).1 hj
    refine ⟨?_, fun j hj => ?_⟩
    · refine Nat.lt_pow_two_of_testBit (n := 8) _ (fun j hj => ?_)
      by_cases c : j < 32
      · have z := key j c
        rw [hlow j hj, decide_eq_false (by omega)] at z
        exact z
      · exact tb_ge (by omega)
    · have z := key j (by omega)
      rw [gPair_up, nI_eqb (by omega) (by omega), nI_eqb (by omega) (by omega), ← (h4 a9 ha9).2 j hj]
      refine z.trans ?_
      show (tb (d a9) j || decide (a9 = a ∧ j = b)) = (decide (a = a9) && decide (b = j) || tb (d a9) j)
      cases tb (d a9) j
      · (apply Bool.eq_iff_iff.mpr; simp only [Bool.or_eq_true, Bool.and_eq_true, Bool.not_eq_true', Bool.not_eq_false', decide_eq_true_eq, decide_eq_false_iff_not, Bool.false_eq_true, Bool.true_eq_false, or_false, false_or, and_true, true_and, and_false, false_and, or_true, true_or, reduceCtorEq, ne_eq, not_false_eq_true, not_true_eq_false, eq_self, true_iff, iff_true, false_iff, iff_false, Bool.or_self, Bool.and_self, Bool.or_false, Bool.false_or, Bool.true_or, Bool.or_true] <;> omega)
      · simp
theorem sim_gives : S_gives GInv := by
  intro x1 x2 IX IM h
  have h9 := ginv_told (v := 0) h
  generalize hI : mw IM 0 0 0 = I1 at h9
  obtain ⟨e1, k, hk, e2, -⟩ := h9.2.2.1.2.2.2.2.2.2.2.2.2.2.2.1
  have hT := fun x => tell_a (lim := 16) (k := k) (n := 64) x1 x2 x h9.1.1.2.2.2.2.2.2.2.2.1 (e1.trans e2) hk rfl (by decide)
  by_cases c1 : x1 = -1
  · subst c1
    refine ⟨0, mw IX 27 2 0, mset (mw I1 0 56 0) 34 (fun j => if 0 ≤ j ∧ j < 8 then 0 else mw I1 0 56 0 34 j), ?_, ?_, ?_⟩
    · rw [show F_Gb_gives (-1) x2 IX = fbd (F_Gb_tell 27 64 (-1) x2 0 IX) (fun (r, I) => some (r, I)) from rfl, fbd_p, hT]; rfl
    · simp only [F_Mo_gives, fstf_d, hI, ↓reduceIte]
      rw [show (0 : Int32) = nI 0 from rfl, gives_0 8 0 5000 _ (by omega) (by omega)]; rfl
    · clear hT
      unfold GInv GWorld GFix at *
      simp +decide (disch := decide) only [mw_ne, mw_eq, mset_ne, mset_eq, upd_ap, xP_mw, xP_mset, ↓reduceIte] at *
      obtain ⟨hF, h5, ⟨t1, t2, t3, t4, t5, t6, t7, t8, t9, t10, t11, t12, t13⟩, hO⟩ := h9
      exact ⟨hF, h5, ⟨t1, t2, t3, t4, t5, t6, t7, t8, t9, t10, t11, GGiv.none, t13⟩, hO⟩
  · have hT0 : F_Gb_tell 27 64 x1 x2 0 IX = some (-1, IX) := by rw [hT, if_neg c1, if_pos rfl]
    have hT1 : F_Gb_tell 27 64 x1 x2 1 IX = if k = 16 then some (-1, IX) else some (nI (k + 1), mw (mset IX (27 + 1) (up4 (IX (27 + 1)) k x1 x2 0 0)) 27 2 (nI (k + 1))) := by rw [hT, if_neg c1, if_neg (show ¬ (1 : Int32) = 0 by decide)]
    simp only [F_Gb_gives, J_Gb_gives_29, J_Gb_gives_30, fbd_p, hT0, hT1, F_Mo_gives, fstf_d, hI, e2, isIn_within _ _ _ I1 IX]
    rw [if_neg c1]
    by_cases c2 : F_Gb_within x1 0 7 IX = 0
    · exact ⟨-1, IX, I1, by rw [if_pos c2], by rw [if_pos c2], h9⟩
    rw [if_neg c2, if_neg c2]
    by_cases c3 : F_Gb_within x2 0 7 IX = 0
    · exact ⟨-1, IX, I1, by rw [if_pos c3], by rw [if_pos c3], h9⟩
    rw [if_neg c3, if_neg c3]
    by_cases c4 : x1 = x2
    · exact ⟨-1, IX, I1, by rw [if_pos c4], by rw [if_pos c4], h9⟩
    rw [if_neg c4, if_neg c4]
    by_cases c5 : k = 16
    · exact ⟨-1, IX, I1, by rw [if_pos c5], by rw [if_pos (by rw [c5]; rfl)], h9⟩
    have c6 : ¬ nI k = 16 := fun q => c5 ((nI_eq (a := k) (b := 16) (by omega) (by decide)).mp q)
    rw [if_neg c5, if_neg c6]
    obtain ⟨a, rfl, ha⟩ := wi_num (m := 7) c2 (by decide)
    obtain ⟨b, rfl, hb⟩ := wi_num (m := 7) c3 (by decide)
    have hab : a ≠ b := fun q => c4 (by rw [q])
    refine ⟨nI (k + 1), _, mw (mw I1 34 a (I1 34 a ||| (1 <<< (nI b &&& 31)))) 0 56 (nI (k + 1)), rfl, ?_, ?_⟩
    · rw [flod_n (by omega) (by decide), fsto_n (by omega) (by decide)]
      have q1 : mw I1 34 a (I1 34 a ||| (1 <<< (nI b &&& 31))) 0 56 = nI k := by rw [mw_ne (by decide)]; exact e2
      rw [q1, nI_1, mw_eq, pk_us]
    · clear hT hT0 hT1
      unfold GInv GWorld GFix at *
      simp +decide (disch := decide) only [mw_ne, mw_eq, mset_ne, mset_eq, upd_ap, xP_mw, xP_mset, ↓reduceIte] at *
      obtain ⟨hF, h5, ⟨t1, t2, t3, t4, t5, t6, t7, t8, t9, t10, t11, t12, t13⟩, hO⟩ := h9
      rw [e2] at t12
      exact ⟨hF, h5, ⟨t1, t2, t3, t4, t5, t6, t7, t8, t9, t10, t11, t12.add (by omega) (by omega) (by omega) hab, t13⟩, hO⟩
