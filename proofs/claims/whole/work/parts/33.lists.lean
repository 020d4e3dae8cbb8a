/-! Lists that are told one by one: flag, cloth, report, jar, convoy, letter. -/
def up4 (c : Nat → Int32) (k : Nat) (x1 x2 x3 x4 : Int32) : Nat → Int32 := upd (upd (upd (upd c (4 * k) x1) (4 * k + 1) x2) (4 * k + 2) x3) (4 * k + 3) x4
theorem up4_0 {c : Nat → Int32} {k : Nat} {x1 x2 x3 x4 : Int32} : up4 c k x1 x2 x3 x4 (4 * k) = x1 := by
  unfold up4; rw [pk_un (by omega), pk_un (by omega), pk_un (by omega), pk_us]
theorem up4_1 {c : Nat → Int32} {k : Nat} {x1 x2 x3 x4 : Int32} : up4 c k x1 x2 x3 x4 (4 * k + 1) = x2 := by
  unfold up4; rw [pk_un (by omega), pk_un (by omega), pk_us]
theorem up4_2 {c : Nat → Int32} {k : Nat} {x1 x2 x3 x4 : Int32} : up4 c k x1 x2 x3 x4 (4 * k + 2) = x3 := by
  unfold up4; rw [pk_un (by omega), pk_us]
theorem up4_3 {c : Nat → Int32} {k : Nat} {x1 x2 x3 x4 : Int32} : up4 c k x1 x2 x3 x4 (4 * k + 3) = x4 := by
  unfold up4; rw [pk_us]
theorem up4_lt {c : Nat → Int32} {k j : Nat} {x1 x2 x3 x4 : Int32} (h : j < 4 * k) : up4 c k x1 x2 x3 x4 j = c j := by
  unfold up4; rw [pk_un (by omega), pk_un (by omega), pk_un (by omega), pk_un (by omega)]
/-- a row more -/
theorem ro_add {h n lim k : Nat} {I : gb_Mem} (x1 x2 x3 x4 : Int32) (hl : I h 0 = nI lim) (hs : I h 2 = nI k) (hk : k ≤ lim) (hn : n = 4 * lim) (hlim : lim ≤ 150) : F_Ro_add h n x1 x2 x3 x4 I = if k = lim then some (-1, I) else some (nI (k + 1), mw (mset I (h + 1) (up4 (I (h + 1)) k x1 x2 x3 x4)) h 2 (nI (k + 1))) := by
  unfold F_Ro_add
  rw [hl, hs]
  by_cases hc : k = lim
  · rw [if_pos hc, if_pos (by subst hc; exact nI_le (Nat.le_refl _) (by omega))]
  · have e4 : (4 : Int32) * nI k = nI (4 * k) := pk_mul 4 k
    have a1 : nI (4 * k) + 1 = nI (4 * k + 1) := nI_add (4 * k) 1
    have a2 : nI (4 * k) + 2 = nI (4 * k + 2) := nI_add (4 * k) 2
    have a3 : nI (4 * k) + 3 = nI (4 * k + 3) := nI_add (4 * k) 3
    have a4 : nI (4 * k) + 4 = nI (4 * k + 4) := nI_add (4 * k) 4
    rw [if_neg hc, if_neg (nI_ge (by omega) (by omega)), e4, if_neg (nI_pos (by omega)), a4, if_pos (nI_le (by omega) (by omega)), fsto_n (by omega) (by omega), a1, fsto_n (by omega) (by omega), a2, fsto_n (by omega) (by omega), a3, fsto_n (by omega) (by omega), fstf_d]
    have e0 : mw (mw (mw (mw I (h + 1) (4 * k) x1) (h + 1) (4 * k + 1) x2) (h + 1) (4 * k + 2) x3) (h + 1) (4 * k + 3) x4 = mset I (h + 1) (up4 (I (h + 1)) k x1 x2 x3 x4) := by
      funext c
      by_cases hc2 : c = h + 1
      · subst hc2
        rw [mw_eq, mw_eq, mw_eq, mw_eq, mset_eq]; rfl
      · rw [mw_ne hc2, mw_ne hc2, mw_ne hc2, mw_ne hc2, mset_ne hc2]
    rw [e0, mset_ne (by omega), hs, show nI k + 1 = nI (k + 1) from nI_1 k, mw_eq, pk_us]
theorem tell_a {h n lim k : Nat} {I : gb_Mem} (x1 x2 x3 : Int32) (hl : I h 0 = nI lim) (hs : I h 2 = nI k) (hk : k ≤ lim) (hn : n = 4 * lim) (hlim : lim ≤ 150) : F_Gb_tell h n x1 x2 x3 I = if x1 = -1 then some (0, mw I h 2 0) else if x3 = 0 then some (-1, I) else if k = lim then some (-1, I) else some (nI (k + 1), mw (mset I (h + 1) (up4 (I (h + 1)) k x1 x2 0 0)) h 2 (nI (k + 1))) := by
  unfold F_Gb_tell
  rw [ro_add x1 x2 0 0 hl hs hk hn hlim]
  by_cases h1 : x1 = -1
  · rw [if_pos h1, if_pos h1]; rfl
  · rw [if_neg h1, if_neg h1]
    by_cases h2 : x3 = 0
    · rw [if_pos h2, if_pos h2]
    · rw [if_neg h2, if_neg h2]
      by_cases h3 : k = lim
      · rw [if_pos h3]; rfl
      · rw [if_neg h3]; rfl
theorem GRow1.none {lim : Nat} {n m : Int32} {c d : Nat → Int32} {lo hi : Int} : GRow1 lim 0 c 0 d lo hi := ⟨rfl, 0, Nat.zero_le _, rfl, fun i hi => absurd hi (Nat.not_lt_zero i)⟩
theorem GRow2.none {lim : Nat} {c d e : Nat → Int32} {R : Int32 → Int32 → Prop} : GRow2 lim 0 c 0 d e R := ⟨rfl, 0, Nat.zero_le _, rfl, fun i hi => absurd hi (Nat.not_lt_zero i)⟩
theorem GRow1.add {lim k : Nat} {n : Int32} {c d : Nat → Int32} {lo hi : Int} {x x2 x3 x4 : Int32} (h : GRow1 lim n c (nI k) d lo hi) (hk : k < lim) (hl : lim ≤ 150) (hx : gIn x lo hi) : GRow1 lim (nI (k + 1)) (up4 c k x x2 x3 x4) (nI (k + 1)) (upd d k x) lo hi := by
  obtain ⟨-, k2, h2, e2, h3⟩ := h
  have : k = k2 := (nI_eq (by omega) (by omega)).mp e2
  subst this
  refine ⟨rfl, k + 1, by omega, rfl, fun i hi => ?_⟩
  by_cases hik : i = k
  · subst hik
    rw [up4_0, pk_us]
    exact ⟨rfl, hx⟩
  · rw [up4_lt (by omega), pk_un hik]
    exact h3 i (by omega)
theorem GRow2.add {lim k : Nat} {n : Int32} {c d e : Nat → Int32} {R : Int32 → Int32 → Prop} {x x2 x3 x4 : Int32} (h : GRow2 lim n c (nI k) d e R) (hk : k < lim) (hl : lim ≤ 150) (hx : R x x2) : GRow2 lim (nI (k + 1)) (up4 c k x x2 x3 x4) (nI (k + 1)) (upd d k x) (upd e k x2) R := by
  obtain ⟨-, k2, h2, e2, h3⟩ := h
  have : k = k2 := (nI_eq (by omega) (by omega)).mp e2
  subst this
  refine ⟨rfl, k + 1, by omega, rfl, fun i hi => ?_⟩
  by_cases hik : i = k
  · subst hik
    rw [up4_0, up4_1, pk_us, pk_us]
    exact ⟨rfl, rfl, hx⟩
  · rw [up4_lt (by omega), up4_lt (by omega), pk_un hik, pk_un hik]
    exact h3 i (by omega)
theorem sim_flag : S_flag GInv := by
  intro x1 IX IM h
  have h9 := ginv_told (v := 0) h
  generalize hI : mw IM 0 0 0 = I1 at h9
  have hW := h9.2.2.1
  obtain ⟨e1, k, hk, e2, h3⟩ := hW.2.2.2.2.2.2.2.2.2.2.1
  have hX : F_Gb_flag x1 IX = F_Gb_tell 25 40 x1 0 (F_Gb_within x1 0 4095 IX) IX := by
    unfold F_Gb_flag
    cases F_Gb_tell 25 40 x1 0 (F_Gb_within x1 0 4095 IX) IX <;> rfl
  rw [hX, tell_a (lim := 10) (k := k) x1 0 _ h9.1.1.2.2.2.2.2.2.2.1 (e1.trans e2) hk rfl (by decide)]
  simp only [F_Mo_flag, fstf_d, hI, e2]
  by_cases c1 : x1 = -1
  · refine ⟨0, mw IX 25 2 0, mw I1 0 53 0, by rw [if_pos c1], by rw [if_pos c1], ?_⟩
    unfold GInv GWorld GFix at *
    simp +decide (disch := decide) only [mw_ne, mw_eq, mset_ne, mset_eq, upd_ap, xP_mw, xP_mset, ↓reduceIte] at *
    obtain ⟨hF, h5, ⟨t1, t2, t3, t4, t5, t6, t7, t8, t9, t10, t11, t12⟩, hO⟩ := h9
    exact ⟨hF, h5, ⟨t1, t2, t3, t4, t5, t6, t7, t8, t9, t10, GRow1.none (n := 0) (m := 0), t12⟩, hO⟩
  · rw [if_neg c1]
    by_cases c2 : F_Gb_within x1 0 4095 IX = 0
    · exact ⟨-1, IX, I1, by rw [if_pos c2], by rw [if_neg c1, show F_Mo_isIn x1 0 4095 I1 = 0 from c2, if_pos rfl], h9⟩
    · rw [if_neg c2]
      by_cases c3 : k = 10
      · exact ⟨-1, IX, I1, by rw [if_pos c3], by rw [if_neg c1, if_neg (show ¬ F_Mo_isIn x1 0 4095 I1 = 0 from c2), if_pos (by rw [c3]; rfl)], h9⟩
      · have c4 : ¬ nI k = 10 := fun q => c3 ((nI_eq (a := k) (b := 10) (by omega) (by decide)).mp q)
        refine ⟨nI (k + 1), _, mw (mw I1 32 k x1) 0 53 (nI (k + 1)), by rw [if_neg c3], ?_, ?_⟩
        · rw [if_neg c1, if_neg (show ¬ F_Mo_isIn x1 0 4095 I1 = 0 from c2), if_neg c4, fsto_n (by omega) (by decide)]
          have q1 : mw I1 32 k x1 0 53 = nI k := by rw [mw_ne (by decide)]; exact e2
          rw [q1, show nI k + 1 = nI (k + 1) from nI_1 k, mw_eq, pk_us]
        · have hin : gIn x1 0 4095 := within_in c2
          unfold GInv GWorld GFix at *
          simp +decide (disch := decide) only [mw_ne, mw_eq, mset_ne, mset_eq, upd_ap, xP_mw, xP_mset, ↓reduceIte] at *
          obtain ⟨hF, h5, ⟨t1, t2, t3, t4, t5, t6, t7, t8, t9, t10, t11, t12⟩, hO⟩ := h9
          rw [e2] at t11
          exact ⟨hF, h5, ⟨t1, t2, t3, t4, t5, t6, t7, t8, t9, t10, t11.add (by omega) (by decide) hin, t12⟩, hO⟩
