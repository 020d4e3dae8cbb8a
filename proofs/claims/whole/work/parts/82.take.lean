/-! TEXT: what has been read is taken. -/
def TX (IX Y : gb_Mem) : Prop := (∀ c, c ≠ 0 ∧ (c < 111 ∨ 120 < c) → Y c = IX c) ∧ (∀ j, j ≠ 10 → Y 0 j = IX 0 j) ∧ Y 0 10 = 0 ∧ Y 117 0 = IX 117 0 ∧ Y 119 0 = IX 119 0
def TM (IM N : gb_Mem) : Prop := (∀ c, c ≠ 0 ∧ (c < 12 ∨ 21 < c) → N c = IM c) ∧ (∀ j, j ≠ 0 ∧ j ≠ 13 ∧ ¬ (14 ≤ j ∧ j ≤ 17) ∧ ¬ (26 ≤ j ∧ j ≤ 34) → N 0 j = IM 0 j) ∧ (∀ c j, 12 ≤ c → c ≤ 15 → j < 32 → N c j = IM c j) ∧ (∀ c j, 16 ≤ c → c ≤ 17 → j < 800 → N c j = IM c j) ∧ (∀ j, j < 8 → N 19 j = IM 19 j) ∧ (∀ j, j < 64 → N 20 j = IM 20 j) ∧ (∀ j, j < 12 → N 21 j = IM 21 j)
theorem ginv_rd {IX IM Y N : gb_Mem} (h : GInv IX IM) (hX : TX IX Y) (hM : TM IM N) (h13 : N 0 13 = 0) (h7 : Y 111 7 = N 0 33) (h8 : Y 111 8 = N 0 34) : GInv Y N := by
  obtain ⟨hF, h5, hW, hPa, hTp, hFt, hIm⟩ := h
  obtain ⟨x1, x2, x3, x4, x5⟩ := hX
  obtain ⟨m1, m2, m3, m4, m5, m6, m7⟩ := hM
  refine ⟨?_, ?_, ?_, ?_, ?_, ⟨h7, h8⟩, ?_⟩
  · unfold GFix at *
    simp +decide (disch := decide) only [x1, x4, x5, m1]
    exact hF
  · rw [m2 5 (by decide)]; exact h5
  · refine gworld_eqs hW ?_ ?_
    · refine ⟨⟨fun j _ => by rw [x1 2 (by decide)], fun j _ => by rw [x1 3 (by decide)], fun j _ => by rw [x1 4 (by decide)], fun j _ => by rw [x1 5 (by decide)]⟩, ⟨by rw [x1 6 (by decide)], fun j _ => by rw [x1 7 (by decide)], fun j _ => by rw [x1 8 (by decide)], fun j _ => by rw [x1 9 (by decide)]⟩, fun r hr => ⟨by rw [x1 (11 + 2 * r) (by omega)], fun k _ _ j _ => by rw [x1 (12 + 2 * r) (by omega)]⟩⟩
    · refine ⟨fun j _ => by rw [m1 1 (by decide)], fun j hj => ⟨by rw [m1 4 (by decide)], by rw [m1 5 (by decide)], by rw [m1 6 (by decide)], m7 j hj⟩, fun j hj => ⟨by rw [m1 7 (by decide)], m5 j hj, by rw [m1 30 (by decide)], by rw [m1 31 (by decide)], by rw [m1 34 (by decide)], by rw [m1 37 (by decide)], by rw [m1 38 (by decide)]⟩, fun j _ => by rw [m1 27 (by decide)], fun j _ => by rw [m1 32 (by decide)], fun j _ => ⟨by rw [m1 35 (by decide)], by rw [m1 36 (by decide)], by rw [m1 39 (by decide)], by rw [m1 40 (by decide)]⟩, fun j hj => m6 j hj, fun j _ => by rw [m1 8 (by decide)], by rw [m1 11 (by decide)], fun j hj => ⟨m3 12 j (by decide) (by decide) (by omega), m3 13 j (by decide) (by decide) (by omega), m3 14 j (by decide) (by decide) (by omega), m3 15 j (by decide) (by decide) (by omega)⟩, fun j hj => ⟨m4 16 j (by decide) (by decide) (by omega), m4 17 j (by decide) (by decide) (by omega)⟩, m2 6 (by decide), m2 35 (by decide), m2 37 (by decide), m2 39 (by decide), by rw [m1 26 (by decide)], by rw [m1 26 (by decide)], m2 50 (by decide), m2 53 (by decide), m2 56 (by decide), m2 58 (by decide), m2 61 (by decide), m2 64 (by decide)⟩
  · rw [xP_congr (I := IX) (J := Y) (fun c h1 h2 => x1 c (by omega))]
    simp +decide (disch := decide) only [x1, m1, m2]
    exact hPa
  · rw [x3, h13]
    exact ⟨rfl, 0, by omega, rfl, fun i hi => absurd hi (Nat.not_lt_zero _)⟩
  · rw [xP_congr (I := IX) (J := Y) (fun c h1 h2 => x1 c (by omega)), x2 2 (by decide), m2 68 (by decide), m1 41 (by decide)]
    exact hIm
theorem to_7 (x2 : Int32) : ∀ m x f I, x + m = 12 → m < f → ∃ K, L_Mo_takesOther_7 x2 f (nI x) I = some K ∧ (∀ c, c ≠ 21 → K c = I c) ∧ (∀ j, x ≤ j → j < 12 → K 21 j = I 21 (12 + j)) ∧ (∀ j, j < x ∨ 12 ≤ j → K 21 j = I 21 j) := by
  intro m
  induction m with
  | zero =>
    intro x f I hm hf
    obtain ⟨f, rfl⟩ : ∃ g, f = g + 1 := ⟨f - 1, by omega⟩
    refine ⟨I, ?_, fun _ _ => rfl, fun j a b => by omega, fun _ _ => rfl⟩
    simp only [L_Mo_takesOther_7]
    rw [if_pos (show 12 ≤ nI x from nI_le (a := 12) (by omega) (by omega))]
  | succ m ih =>
    intro x f I hm hf
    obtain ⟨f, rfl⟩ : ∃ g, f = g + 1 := ⟨f - 1, by omega⟩
    obtain ⟨K, k1, k2, k3, k4⟩ := ih (x + 1) f (mw I 21 x (I 21 (12 + x))) (by omega) (by omega)
    refine ⟨K, ?_, fun c hc => by rw [k2 c hc, mw_ne hc], fun j a b => ?_, fun j hj => ?_⟩
    · simp only [L_Mo_takesOther_7]
      rw [if_neg (show ¬ 12 ≤ nI x from nI_ge (b := 12) (by omega) (by decide)), show (12 : Int32) + nI x = nI (12 + x) from nI_add 12 x, flod_n (by omega) (by decide), fsto_n (by omega) (by decide), nI_1]; exact k1
    · by_cases e : j = x
      · subst e; rw [k4 j (by omega), mw_eq, pk_us]
      · rw [k3 j (by omega) b, mw_eq, pk_un (by omega)]
    · rw [k4 j (by omega), mw_eq, pk_un (by omega)]
theorem to_47 (x2 : Int32) : ∀ m x f I, x + m = 8 → m < f → ∃ K, L_Mo_takesOther_47 x2 f (nI x) I = some K ∧ (∀ c, c ≠ 19 → K c = I c) ∧ (∀ j, x ≤ j → j < 8 → K 19 j = I 19 (8 + j)) ∧ (∀ j, j < x ∨ 8 ≤ j → K 19 j = I 19 j) := by
  intro m
  induction m with
  | zero =>
    intro x f I hm hf
    obtain ⟨f, rfl⟩ : ∃ g, f = g + 1 := ⟨f - 1, by omega⟩
    refine ⟨I, ?_, fun _ _ => rfl, fun j a b => by omega, fun _ _ => rfl⟩
    simp only [L_Mo_takesOther_47]
    rw [if_pos (show 8 ≤ nI x from nI_le (a := 8) (by omega) (by omega))]
  | succ m ih =>
    intro x f I hm hf
    obtain ⟨f, rfl⟩ : ∃ g, f = g + 1 := ⟨f - 1, by omega⟩
    obtain ⟨K, k1, k2, k3, k4⟩ := ih (x + 1) f (mw I 19 x (I 19 (8 + x))) (by omega) (by omega)
    refine ⟨K, ?_, fun c hc => by rw [k2 c hc, mw_ne hc], fun j a b => ?_, fun j hj => ?_⟩
    · simp only [L_Mo_takesOther_47]
      rw [if_neg (show ¬ 8 ≤ nI x from nI_ge (b := 8) (by omega) (by decide)), show (8 : Int32) + nI x = nI (8 + x) from nI_add 8 x, flod_n (by omega) (by decide), fsto_n (by omega) (by decide), nI_1]; exact k1
    · by_cases e : j = x
      · subst e; rw [k4 j (by omega), mw_eq, pk_us]
      · rw [k3 j (by omega) b, mw_eq, pk_un (by omega)]
    · rw [k4 j (by omega), mw_eq, pk_un (by omega)]
theorem to_84 {k : Nat} (hk : k ≤ 16) : ∀ m x f I, x + m = 4 * k → m < f → ∃ K, L_Mo_takesOther_84 (nI k) f (nI x) I = some K ∧ (∀ c, c ≠ 20 → K c = I c) ∧ (∀ j, x ≤ j → j < 4 * k → K 20 j = I 20 (64 + j)) ∧ (∀ j, j < x ∨ 64 ≤ j → K 20 j = I 20 j) := by
  have e4 : (4 : Int32) * nI k = nI (4 * k) := by rw [show (4 : Int32) = nI 4 from rfl, pk_mul]
  intro m
  induction m with
  | zero =>
    intro x f I hm hf
    obtain ⟨f, rfl⟩ : ∃ g, f = g + 1 := ⟨f - 1, by omega⟩
    refine ⟨I, ?_, fun _ _ => rfl, fun j a b => by omega, fun _ _ => rfl⟩
    simp only [L_Mo_takesOther_84]
    rw [e4, if_pos (nI_le (by omega) (by omega))]
  | succ m ih =>
    intro x f I hm hf
    obtain ⟨f, rfl⟩ : ∃ g, f = g + 1 := ⟨f - 1, by omega⟩
    obtain ⟨K, k1, k2, k3, k4⟩ := ih (x + 1) f (mw I 20 x (I 20 (64 + x))) (by omega) (by omega)
    refine ⟨K, ?_, fun c hc => by rw [k2 c hc, mw_ne hc], fun j a b => ?_, fun j hj => ?_⟩
    · simp only [L_Mo_takesOther_84]
      rw [e4, if_neg (nI_ge (by omega) (by omega)), show (64 : Int32) + nI x = nI (64 + x) from nI_add 64 x, flod_n (by omega) (by decide), fsto_n (by omega) (by decide), nI_1]; exact k1
    · by_cases e : j = x
      · subst e; rw [k4 j (by omega), mw_eq, pk_us]
      · rw [k3 j (by omega) b, mw_eq, pk_un (by omega)]
    · rw [k4 j (by omega), mw_eq, pk_un (by omega)]
section TAKE
variable {Y N : gb_Mem} {k : Nat}
theorem take_1 (h : GInv Y N) (hk : k ≤ 16) (hG : GV Y N (nI k)) : ∃ Y2 N2, F_Gb_takeText 1 Y = some (nI k, Y2) ∧ F_Mo_takesOther 1 (nI k) N = some N2 ∧ GInv Y2 N2 := by
  obtain ⟨hF, h5, hW, hPa, hTp, hFt, hIm⟩ := h
  have hG : GVoy (Y 119 2) (Y 120) (nI k) (fun j => N 19 (8 + j)) := hG
  obtain ⟨J, j1, j2, j3, j4, j5⟩ := ro_copy (I := Y) (h0 := 11) (h1 := 119) (n := 64) (k := k) (lim := 16) hG.1 hF.1.1 hk (by decide) (by decide) (by decide)
  obtain ⟨K, k1, k2, k3, k4⟩ := to_47 (nI k) 8 0 5000 N (by decide) (by decide)
  have jc : ∀ c, c ≠ 11 ∧ c ≠ 12 → J c = Y c := fun c hc => j2 c hc.1 hc.2
  refine ⟨mw J 69 3 0, mw (mw K 0 35 (nI k)) 0 3 0, ?_, ?_, ?_⟩
  · unfold F_Gb_takeText F_Pa_forget
    rw [if_neg (by decide), if_pos rfl, j1, fbd_s, if_neg (by decide), fstf_d, fbd_s, mw_ne (by decide), j4]
  · unfold F_Mo_takesOther J_Mo_takesOther_117
    rw [if_neg (by decide), if_pos rfl, show L_Mo_takesOther_47 (nI k) 5000 0 N = some K from k1, fbd_s, fstf_d, fstf_d]
  · have nw : GVoy (J 11 2) (J 12) (nI k) (K 19) := by
      rw [hG.1] at hG
      rw [j4]
      refine hG.eqs (fun k' e hk' j hj => ?_) (fun j hj => k3 j (Nat.zero_le _) hj)
      have : k' = k := (nI_eq (by omega) (by omega)).mp e.symm
      subst this
      exact j5 j hj
    have l11 : J 11 0 = Y 11 0 := j3 0 (by decide)
    have x1 : xP J 72 24 = xP Y 72 24 := xP_congr (fun c h1 h2 => jc c (by omega))
    have x2 : xP J 35 34 = xP Y 35 34 := xP_congr (fun c h1 h2 => jc c (by omega))
    refine ⟨?_, ?_, ?_, ?_, ?_, ?_, ?_⟩
    · unfold GFix at *
      simp +decide (disch := decide) only [mw_ne, l11, jc, k2]
      exact hF
    · rw [mw_eq, pk_un (by decide), mw_eq, pk_un (by decide), k2 0 (by decide)]; exact h5
    · obtain ⟨t1, t2, t3, t4, t5, t6, t7, t8, t9, t10, t11, t12, t13, t14, t15⟩ := hW
      unfold GWorld
      simp +decide (disch := decide) only [mw_ne, mw_eq, upd_ap, ↓reduceIte, jc, k2]
      exact ⟨t1, t2, t3, t4, nw, t6, t7, t8, t9, t10, t11, t12, t13, t14, t15⟩
    · rw [xP_mw (by decide), x1, mw_eq, pk_un (by decide), pk_us, jc 69 (by decide), mw_ne (show 71 ≠ 69 by decide), jc 71 (by decide), show mw (mw K 0 35 (nI k)) 0 3 0 0 3 = 0 by rw [mw_eq, pk_us]]
      exact hPa.none
    · rw [mw_ne (show 0 ≠ 69 by decide), jc 0 (by decide), mw_ne (show 110 ≠ 69 by decide), jc 110 (by decide), mw_ne (show 9 ≠ 0 by decide), mw_ne (show 9 ≠ 0 by decide), k2 9 (by decide), mw_eq, pk_un (by decide), mw_eq, pk_un (by decide), k2 0 (by decide)]
      exact hTp
    · rw [mw_ne (show 111 ≠ 69 by decide), jc 111 (by decide), mw_eq, pk_un (by decide), pk_un (by decide), mw_eq, pk_un (by decide), pk_un (by decide), k2 0 (by decide)]
      exact hFt
    · rw [xP_mw (by decide), x2, mw_ne (show 0 ≠ 69 by decide), jc 0 (by decide), mw_ne (show 41 ≠ 0 by decide), mw_ne (show 41 ≠ 0 by decide), k2 41 (by decide), mw_eq, pk_un (by decide), mw_eq, pk_un (by decide), k2 0 (by decide)]
      exact hIm
theorem take_2 (h : GInv Y N) (hk : k ≤ 16) (hG : GD Y N (nI k)) : ∃ Y2 N2, F_Gb_takeText 2 Y = some (nI k, Y2) ∧ F_Mo_takesOther 2 (nI k) N = some N2 ∧ GInv Y2 N2 := by
  obtain ⟨hF, h5, hW, hPa, hTp, hFt, hIm⟩ := h
  have hG : GDin (Y 119 2) (Y 120) (nI k) (fun j => N 20 (64 + j)) := hG
  obtain ⟨J, j1, j2, j3, j4, j5⟩ := ro_copy (I := Y) (h0 := 13) (h1 := 119) (n := 64) (k := k) (lim := 16) hG.1 hF.1.2.1 hk (by decide) (by decide) (by decide)
  obtain ⟨K, k1, k2, k3, k4⟩ := to_84 hk (4 * k) 0 5000 N (by omega) (by omega)
  have jc : ∀ c, c ≠ 13 ∧ c ≠ 14 → J c = Y c := fun c hc => j2 c hc.1 hc.2
  refine ⟨mw J 69 3 0, mw (mw K 0 37 (nI k)) 0 3 0, ?_, ?_, ?_⟩
  · unfold F_Gb_takeText F_Pa_forget
    rw [if_neg (by decide), if_neg (by decide), if_pos rfl, j1, fbd_s, if_neg (by decide), fstf_d, fbd_s, mw_ne (by decide), j4]
  · unfold F_Mo_takesOther J_Mo_takesOther_117
    rw [if_neg (by decide), if_neg (by decide), show L_Mo_takesOther_84 (nI k) 5000 0 N = some K from k1, fbd_s, fstf_d, fstf_d]
  · have nw : GDin (J 13 2) (J 14) (nI k) (K 20) := by
      rw [j4]
      obtain ⟨-, k', hk', e, g⟩ := hG
      have : k = k' := (nI_eq (by omega) (by omega)).mp e
      subst this
      refine ⟨rfl, k, hk, rfl, fun i hi => ?_⟩
      rw [k3 _ (Nat.zero_le _) (show 4 * i < 4 * k by omega), k3 _ (Nat.zero_le _) (show 4 * i + 1 < 4 * k by omega), k3 _ (Nat.zero_le _) (show 4 * i + 2 < 4 * k by omega), k3 _ (Nat.zero_le _) (show 4 * i + 3 < 4 * k by omega), show J 14 (4 * i) = _ from j5 _ (show 4 * i < 4 * k by omega), show J 14 (4 * i + 1) = _ from j5 _ (show 4 * i + 1 < 4 * k by omega), show J 14 (4 * i + 2) = _ from j5 _ (show 4 * i + 2 < 4 * k by omega), show J 14 (4 * i + 3) = _ from j5 _ (show 4 * i + 3 < 4 * k by omega)]
      exact g i hi
    have l11 : J 13 0 = Y 13 0 := j3 0 (by decide)
    have x1 : xP J 72 24 = xP Y 72 24 := xP_congr (fun c h1 h2 => jc c (by omega))
    have x2 : xP J 35 34 = xP Y 35 34 := xP_congr (fun c h1 h2 => jc c (by omega))
    refine ⟨?_, ?_, ?_, ?_, ?_, ?_, ?_⟩
    · unfold GFix at *
      simp +decide (disch := decide) only [mw_ne, l11, jc, k2]
      exact hF
    · rw [mw_eq, pk_un (by decide), mw_eq, pk_un (by decide), k2 0 (by decide)]; exact h5
    · obtain ⟨t1, t2, t3, t4, t5, t6, t7, t8, t9, t10, t11, t12, t13, t14, t15⟩ := hW
      unfold GWorld
      simp +decide (disch := decide) only [mw_ne, mw_eq, upd_ap, ↓reduceIte, jc, k2]
      exact ⟨t1, t2, t3, t4, t5, nw, t7, t8, t9, t10, t11, t12, t13, t14, t15⟩
    · rw [xP_mw (by decide), x1, mw_eq, pk_un (by decide), pk_us, jc 69 (by decide), mw_ne (show 71 ≠ 69 by decide), jc 71 (by decide), show mw (mw K 0 37 (nI k)) 0 3 0 0 3 = 0 by rw [mw_eq, pk_us]]
      exact hPa.none
    · rw [mw_ne (show 0 ≠ 69 by decide), jc 0 (by decide), mw_ne (show 110 ≠ 69 by decide), jc 110 (by decide), mw_ne (show 9 ≠ 0 by decide), mw_ne (show 9 ≠ 0 by decide), k2 9 (by decide), mw_eq, pk_un (by decide), mw_eq, pk_un (by decide), k2 0 (by decide)]
      exact hTp
    · rw [mw_ne (show 111 ≠ 69 by decide), jc 111 (by decide), mw_eq, pk_un (by decide), pk_un (by decide), mw_eq, pk_un (by decide), pk_un (by decide), k2 0 (by decide)]
      exact hFt
    · rw [xP_mw (by decide), x2, mw_ne (show 0 ≠ 69 by decide), jc 0 (by decide), mw_ne (show 41 ≠ 0 by decide), mw_ne (show 41 ≠ 0 by decide), k2 41 (by decide), mw_eq, pk_un (by decide), mw_eq, pk_un (by decide), k2 0 (by decide)]
      exact hIm
theorem take_3 (h : GInv Y N) (hk : k ≤ 16) (hG : GR Y N (nI k)) : ∃ Y2 N2, F_Gb_takeText 3 Y = some (nI k, Y2) ∧ F_Mo_takesOther 3 (nI k) N = some N2 ∧ GInv Y2 N2 := by
  obtain ⟨hF, h5, hW, hPa, hTp, hFt, hIm⟩ := h
  have hG : GRea (Y 119 2) (Y 120) (nI k) (fun j => N 21 (12 + j)) := hG
  obtain ⟨J, j1, j2, j3, j4, j5⟩ := ro_copy (I := Y) (h0 := 15) (h1 := 119) (n := 64) (k := k) (lim := 16) hG.1 hF.1.2.2.1 hk (by decide) (by decide) (by decide)
  obtain ⟨K, k1, k2, k3, k4⟩ := to_7 (nI k) 12 0 5000 N (by decide) (by decide)
  have jc : ∀ c, c ≠ 15 ∧ c ≠ 16 → J c = Y c := fun c hc => j2 c hc.1 hc.2
  refine ⟨J, mw K 0 39 (nI k), ?_, ?_, ?_⟩
  · unfold F_Gb_takeText J_Gb_takeText_69 J_Gb_takeText_93
    rw [if_neg (by decide), if_neg (by decide), if_neg (by decide), j1, fbd_s, if_pos rfl, j4]
  · unfold F_Mo_takesOther
    rw [if_pos rfl, show L_Mo_takesOther_7 (nI k) 5000 0 N = some K from k1, fbd_s, fstf_d]
  · have nw : GRea (J 15 2) (J 16) (nI k) (K 21) := by
      rw [hG.1] at hG
      rw [j4]
      refine hG.eqs (fun k' e hk' j hj => ?_) (fun j hj => k3 j (Nat.zero_le _) hj)
      have : k' = k := (nI_eq (by omega) (by omega)).mp e.symm
      subst this
      exact j5 j hj
    have l11 : J 15 0 = Y 15 0 := j3 0 (by decide)
    have x1 : xP J 72 24 = xP Y 72 24 := xP_congr (fun c h1 h2 => jc c (by omega))
    have x2 : xP J 35 34 = xP Y 35 34 := xP_congr (fun c h1 h2 => jc c (by omega))
    refine ⟨?_, ?_, ?_, ?_, ?_, ?_, ?_⟩
    · unfold GFix at *
      simp +decide (disch := decide) only [mw_ne, l11, jc, k2]
      exact hF
    · rw [mw_eq, pk_un (by decide), k2 0 (by decide)]; exact h5
    · obtain ⟨t1, t2, t3, t4, t5, t6, t7, t8, t9, t10, t11, t12, t13, t14, t15⟩ := hW
      unfold GWorld
      simp +decide (disch := decide) only [mw_ne, mw_eq, upd_ap, ↓reduceIte, jc, k2]
      exact ⟨t1, t2, t3, t4, t5, t6, nw, t8, t9, t10, t11, t12, t13, t14, t15⟩
    · rw [x1, jc 69 (by decide), jc 71 (by decide)]
      simp +decide (disch := decide) only [mw_ne, mw_eq, upd_ap, ↓reduceIte, k2]
      exact hPa
    · rw [jc 0 (by decide), jc 110 (by decide), mw_ne (show 9 ≠ 0 by decide), k2 9 (by decide), mw_eq, pk_un (by decide), k2 0 (by decide)]
      exact hTp
    · rw [jc 111 (by decide), mw_eq, pk_un (by decide), pk_un (by decide), k2 0 (by decide)]
      exact hFt
    · rw [x2, jc 0 (by decide), mw_ne (show 41 ≠ 0 by decide), k2 41 (by decide), mw_eq, pk_un (by decide), k2 0 (by decide)]
      exact hIm
/-- the reference's lines, then its steps, are laid down -/
theorem tl_2 {k : Nat} (hk : k ≤ 16) : ∀ m x f I, I 0 26 = 0 → x + m = k → m < f → ∃ K, L_Mo_takesLaw_2 (nI k) f (nI x) I = some K ∧ (∀ c, ¬ (12 ≤ c ∧ c ≤ 15) → K c = I c) ∧ (∀ c j, 12 ≤ c → c ≤ 15 → x ≤ j → j < k → K c j = I c (32 + j)) ∧ (∀ c j, 12 ≤ c → c ≤ 15 → j < x ∨ 32 ≤ j → K c j = I c j) := by
  intro m
  induction m with
  | zero =>
    intro x f I h26 hm hf
    obtain ⟨f, rfl⟩ : ∃ g, f = g + 1 := ⟨f - 1, by omega⟩
    refine ⟨I, ?_, fun _ _ => rfl, fun c j _ _ a b => by omega, fun _ _ _ _ _ => rfl⟩
    simp only [L_Mo_takesLaw_2]
    rw [if_pos (nI_le (by omega) (by omega))]
  | succ m ih =>
    intro x f I h26 hm hf
    obtain ⟨f, rfl⟩ : ∃ g, f = g + 1 := ⟨f - 1, by omega⟩
    obtain ⟨I8, hI8⟩ : ∃ Z, Z = mw (mw (mw (mw I 12 x (I 12 (32 + x))) 13 x (I 13 (32 + x))) 14 x (I 14 (32 + x))) 15 x (I 15 (32 + x)) := ⟨_, rfl⟩
    have e12 : I8 12 = upd (I 12) x (I 12 (32 + x)) := by rw [hI8, mw_ne (by decide), mw_ne (by decide), mw_ne (by decide), mw_eq]
    have e13 : I8 13 = upd (I 13) x (I 13 (32 + x)) := by rw [hI8, mw_ne (by decide), mw_ne (by decide), mw_eq, mw_ne (by decide)]
    have e14 : I8 14 = upd (I 14) x (I 14 (32 + x)) := by rw [hI8, mw_ne (by decide), mw_eq, mw_ne (by decide), mw_ne (by decide)]
    have e15 : I8 15 = upd (I 15) x (I 15 (32 + x)) := by rw [hI8, mw_eq, mw_ne (by decide), mw_ne (by decide), mw_ne (by decide)]
    have ea : ∀ c, 12 ≤ c → c ≤ 15 → I8 c = upd (I c) x (I c (32 + x)) := fun c a b => by
      have hc : c = 12 ∨ c = 13 ∨ c = 14 ∨ c = 15 := by omega
      rcases hc with rfl | rfl | rfl | rfl
      · exact e12
      · exact e13
      · exact e14
      · exact e15
    have eo : ∀ c, ¬ (12 ≤ c ∧ c ≤ 15) → I8 c = I c := fun c hc => by rw [hI8, mw_ne (by omega), mw_ne (by omega), mw_ne (by omega), mw_ne (by omega)]
    obtain ⟨K, k1, k2, k3, k4⟩ := ih (x + 1) f I8 (by rw [eo 0 (by decide)]; exact h26) (by omega) (by omega)
    have ei : ∀ v : Int32, v = 0 → 16 * v + nI x = nI x := fun v hv => by rw [hv, show (16 : Int32) * 0 = nI 0 from rfl, nI_add, Nat.zero_add]
    refine ⟨K, ?_, fun c hc => by rw [k2 c hc, eo c hc], fun c j c1 c2 a b => ?_, fun c j c1 c2 hj => ?_⟩
    · simp only [L_Mo_takesLaw_2]
      rw [if_neg (nI_ge (by omega) (by omega)), show (32 : Int32) + nI x = nI (32 + x) from nI_add 32 x, flod_n (by omega) (by decide), ei _ h26, fsto_n (by omega) (by decide), flod_n (by omega) (by decide), ei _ (by rw [mw_ne (by decide)]; exact h26), fsto_n (by omega) (by decide), flod_n (by omega) (by decide), ei _ (by rw [mw_ne (by decide), mw_ne (by decide)]; exact h26), fsto_n (by omega) (by decide), flod_n (by omega) (by decide), ei _ (by rw [mw_ne (by decide), mw_ne (by decide), mw_ne (by decide)]; exact h26), fsto_n (by omega) (by decide), nI_1]
      have f13 : mw I 12 x (I 12 (32 + x)) 13 = I 13 := mw_ne (by decide)
      have f14 : ∀ v, mw (mw I 12 x (I 12 (32 + x))) 13 x v 14 = I 14 := fun v => by rw [mw_ne (by decide), mw_ne (by decide)]
      have f15 : ∀ v w, mw (mw (mw I 12 x (I 12 (32 + x))) 13 x v) 14 x w 15 = I 15 := fun v w => by rw [mw_ne (by decide), mw_ne (by decide), mw_ne (by decide)]
      rw [f13, f14, f15, ← hI8]; exact k1
    · by_cases e : j = x
      · subst e; rw [k4 c j c1 c2 (by omega), ea c c1 c2, pk_us]
      · rw [k3 c j c1 c2 (by omega) b, ea c c1 c2, pk_un (by omega)]
    · rw [k4 c j c1 c2 (by omega), ea c c1 c2, pk_un (by omega)]
theorem tl_107 {n : Nat} (hn : n ≤ 400) (x1 : Int32) : ∀ m x f I, I 0 26 = 0 → I 0 27 = nI n → x + m = n → m < f → ∃ K, L_Mo_takesLaw_107 x1 f (nI x) I = some K ∧ (∀ c, c ≠ 16 ∧ c ≠ 17 → K c = I c) ∧ (∀ j, x ≤ j → j < n → K 16 j = I 16 (800 + j) ∧ K 17 j = I 17 (800 + j)) ∧ (∀ j, j < x ∨ 800 ≤ j → K 16 j = I 16 j ∧ K 17 j = I 17 j) := by
  intro m
  induction m with
  | zero =>
    intro x f I h26 h27 hm hf
    obtain ⟨f, rfl⟩ : ∃ g, f = g + 1 := ⟨f - 1, by omega⟩
    refine ⟨I, ?_, fun _ _ => rfl, fun j a b => by omega, fun _ _ => ⟨rfl, rfl⟩⟩
    simp only [L_Mo_takesLaw_107]
    rw [h27, if_pos (nI_le (by omega) (by omega))]
  | succ m ih =>
    intro x f I h26 h27 hm hf
    obtain ⟨f, rfl⟩ : ∃ g, f = g + 1 := ⟨f - 1, by omega⟩
    obtain ⟨I8, hI8⟩ : ∃ Z, Z = mw (mw I 16 x (I 16 (800 + x))) 17 x (I 17 (800 + x)) := ⟨_, rfl⟩
    have e16 : I8 16 = upd (I 16) x (I 16 (800 + x)) := by rw [hI8, mw_ne (by decide), mw_eq]
    have e17 : I8 17 = upd (I 17) x (I 17 (800 + x)) := by rw [hI8, mw_eq, mw_ne (by decide)]
    have eo : ∀ c, c ≠ 16 ∧ c ≠ 17 → I8 c = I c := fun c hc => by rw [hI8, mw_ne hc.2, mw_ne hc.1]
    obtain ⟨K, k1, k2, k3, k4⟩ := ih (x + 1) f I8 (by rw [eo 0 (by decide)]; exact h26) (by rw [eo 0 (by decide)]; exact h27) (by omega) (by omega)
    have ei : ∀ v : Int32, v = 0 → 400 * v + nI x = nI x := fun v hv => by rw [hv, show (400 : Int32) * 0 = nI 0 from rfl, nI_add, Nat.zero_add]
    refine ⟨K, ?_, fun c hc => by rw [k2 c hc, eo c hc], fun j a b => ?_, fun j hj => ?_⟩
    · simp only [L_Mo_takesLaw_107]
      rw [h27, if_neg (nI_ge (by omega) (by omega)), show (800 : Int32) + nI x = nI (800 + x) from nI_add 800 x, flod_n (by omega) (by decide), ei _ h26, fsto_n (by omega) (by decide), flod_n (by omega) (by decide), ei _ (by rw [mw_ne (by decide)]; exact h26), fsto_n (by omega) (by decide), nI_1]
      have f17 : mw I 16 x (I 16 (800 + x)) 17 = I 17 := mw_ne (by decide)
      rw [f17, ← hI8]; exact k1
    · by_cases e : j = x
      · subst e; rw [(k4 j (by omega)).1, (k4 j (by omega)).2, e16, e17, pk_us, pk_us]; exact ⟨rfl, rfl⟩
      · rw [(k3 j (by omega) b).1, (k3 j (by omega) b).2, e16, e17, pk_un (by omega), pk_un (by omega)]; exact ⟨rfl, rfl⟩
    · rw [(k4 j (by omega)).1, (k4 j (by omega)).2, e16, e17, pk_un (by omega), pk_un (by omega)]; exact ⟨rfl, rfl⟩
theorem glaw_d {A B : gb_Mem} {k : Nat} {P : List (Nat × Nat)} (hk : k ≤ 16) (h4 : A 114 4 = nI k) (hX : EX P A) (hM : EM (gMl P) B) (hl : (gMl P).length ≤ 400) (hL : LNs k P A B) {n12 n13 n14 n15 n16 n17 : Nat → Int32} (hn : ∀ j, j < k → n12 j = B 12 (32 + j) ∧ n13 j = B 13 (32 + j) ∧ n14 j = B 14 (32 + j) ∧ n15 j = B 15 (32 + j)) (ho : ∀ j, j < (gMl P).length → n16 j = B 16 (800 + j) ∧ n17 j = B 17 (800 + j)) : GLaw (A 114 4) (A 115) (A 116) (A 117) (nI k) n12 n13 n14 n15 n16 n17 := by
  refine ⟨h4, k, hk, rfl, fun l hl2 => ?_⟩
  obtain ⟨p, q, P1, P2, k1, k2, k3, k4, k5, k6, k7, k8, k9, k10⟩ := hL l hl2
  obtain ⟨a1, a2, a3, a4⟩ := hn l hl2
  have hml : (gMl P).length = (gMl P1).length + (gMl p).length + (gMl q).length + (gMl P2).length := by rw [k1, gMl_app, gMl_app, gMl_app, List.length_append, List.length_append, List.length_append]
  have hpl := gMl_len P
  have hpl2 : P.length = P1.length + p.length + q.length + P2.length := by rw [k1, List.length_append, List.length_append, List.length_append]
  have c1 := hX.2
  rw [k1, cAt_app, cAt_app, cAt_app, Nat.zero_add, Nat.zero_add, List.length_append] at c1
  have m1 := hM.2
  have m2 : mAt n16 n17 0 (gMl P) := mAt_c (gMl P) 0 (fun j _ hj => ho j (by omega)) m1
  rw [k1, gMl_app, gMl_app, gMl_app, mAt_app, mAt_app, mAt_app, Nat.zero_add, Nat.zero_add, List.length_append] at m2
  exact ⟨p, q, P1.length, (gMl P1).length, k2.trans a1.symm, k3, k4, k5, by omega, c1.1.1.2, c1.1.2, a2.trans k6, a3.trans k7, a4.trans k8, by omega, m2.1.1.2, m2.1.2, k9, k10⟩
theorem take_0 (h : GInv Y N) (hk : k ≤ 16) (hG : GL Y N (nI k)) (h26 : N 0 26 = 0) : ∃ Y2 N2, F_Gb_takeText 0 Y = some (nI k, Y2) ∧ F_Mo_takesLaw (nI k) N = some N2 ∧ GInv Y2 N2 := by
  obtain ⟨hF, h5, hW, hPa, hTp, hFt, hIm⟩ := h
  obtain ⟨k', P, e, hk', h4, hX, hM, hl, hL⟩ := hG
  have : k = k' := (nI_eq (by omega) (by omega)).mp e
  subst this
  obtain ⟨J, j1, j2, j3, j4, j5, j6, j7, j8⟩ := la_copy (I := Y) (h0 := 6) (h1 := 114) (by decide)
  obtain ⟨K, k1, k2, k3, k4⟩ := tl_2 hk k 0 5000 N h26 (by omega) (by omega)
  obtain ⟨H, q1, q2, q3, q4⟩ := tl_107 hl (nI k) (gMl P).length 0 5000 K (by rw [k2 0 (by decide)]; exact h26) (by rw [k2 0 (by decide)]; exact hM.1) (by omega) (by omega)
  have jc : ∀ c, c < 6 ∨ 9 < c → J c = Y c := fun c hc => j2 c (by omega)
  have hc : ∀ c, ¬ (12 ≤ c ∧ c ≤ 17) → H c = N c := fun c hc => by rw [q2 c (by omega), k2 c (by omega)]
  have c26 : H 0 26 = nI 0 := by rw [hc 0 (by decide)]; exact h26
  refine ⟨J, mw H 11 0 (nI k), ?_, ?_, ?_⟩
  · unfold F_Gb_takeText
    rw [if_pos rfl, j1, fbd_s, j4, h4]
  · unfold F_Mo_takesLaw
    rw [show L_Mo_takesLaw_2 (nI k) 5000 0 N = some K from k1, fbd_s, show L_Mo_takesLaw_107 (nI k) 5000 0 K = some H from q1, fbd_s, c26, fsto_n (by decide) (by decide)]
  · have nw : GLaw (J 6 4) (J 7) (J 8) (J 9) (nI k) (H 12) (H 13) (H 14) (H 15) (H 16) (H 17) := by
      have g : GLaw (Y 114 4) (Y 115) (Y 116) (Y 117) (nI k) (H 12) (H 13) (H 14) (H 15) (H 16) (H 17) := by
        refine glaw_d hk h4 hX hM hl hL (fun j hj => ⟨?_, ?_, ?_, ?_⟩) (fun j hj => ⟨?_, ?_⟩)
        · rw [q2 12 (by decide)]; exact k3 12 j (by decide) (by decide) (Nat.zero_le _) hj
        · rw [q2 13 (by decide)]; exact k3 13 j (by decide) (by decide) (Nat.zero_le _) hj
        · rw [q2 14 (by decide)]; exact k3 14 j (by decide) (by decide) (Nat.zero_le _) hj
        · rw [q2 15 (by decide)]; exact k3 15 j (by decide) (by decide) (Nat.zero_le _) hj
        · rw [(q3 j (Nat.zero_le _) hj).1, k2 16 (by decide)]
        · rw [(q3 j (Nat.zero_le _) hj).2, k2 17 (by decide)]
      rw [j4]
      exact g.eqs j6 j7 j8 (fun _ _ => ⟨rfl, rfl, rfl, rfl⟩) (fun _ _ => ⟨rfl, rfl⟩)
    have x1 : xP J 72 24 = xP Y 72 24 := xP_congr (fun c h1 h2 => jc c (by omega))
    have x2 : xP J 35 34 = xP Y 35 34 := xP_congr (fun c h1 h2 => jc c (by omega))
    refine ⟨?_, ?_, ?_, ?_, ?_, ?_, ?_⟩
    · unfold GFix at *
      simp +decide (disch := decide) only [mw_ne, jc, hc]
      exact hF
    · rw [mw_ne (by decide), hc 0 (by decide)]; exact h5
    · obtain ⟨t1, t2, t3, t4, t5, t6, t7, t8, t9, t10, t11, t12, t13, t14, t15⟩ := hW
      unfold GWorld
      simp +decide (disch := decide) only [mw_ne, mw_eq, upd_ap, ↓reduceIte, jc, hc]
      exact ⟨t1, t2, t3, nw, t5, t6, t7, t8, t9, t10, t11, t12, t13, t14, t15⟩
    · rw [x1, jc 69 (by decide), jc 71 (by decide)]
      simp +decide (disch := decide) only [mw_ne, hc]
      exact hPa
    · rw [jc 0 (by decide), jc 110 (by decide), mw_ne (show 9 ≠ 11 by decide), hc 9 (by decide), mw_ne (show 0 ≠ 11 by decide), hc 0 (by decide)]
      exact hTp
    · rw [jc 111 (by decide), mw_ne (show 0 ≠ 11 by decide), hc 0 (by decide)]
      exact hFt
    · rw [x2, jc 0 (by decide), mw_ne (show 41 ≠ 11 by decide), hc 41 (by decide), mw_ne (show 0 ≠ 11 by decide), hc 0 (by decide)]
      exact hIm
end TAKE
