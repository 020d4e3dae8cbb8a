/-! boat, set. -/
theorem xP_congr {I J : gb_Mem} {lo n : Nat} (h : ∀ c, lo ≤ c → c < lo + n → J c = I c) : xP J lo n = xP I lo n := by
  funext c
  unfold xP
  by_cases hc : c < n
  · rw [if_pos hc, if_pos hc, h _ (by omega) (by omega)]
  · rw [if_neg hc, if_neg hc]
theorem ginv_tab {IX IM JX JM : gb_Mem} (h : GInv IX IM) (hX : ∀ c, (c < 2 ∨ 5 < c) → c ≠ 69 → JX c = IX c) (h2 : JX 69 2 = IX 69 2) (h3 : JX 69 3 = 0) (hM : ∀ c, c ≠ 0 → c ≠ 1 → (c < 4 ∨ 7 < c) → JM c = IM c) (h0 : ∀ j, j ≠ 0 → j ≠ 3 → j ≠ 6 → JM 0 j = IM 0 j) (h03 : JM 0 3 = 0) (h12 : JM 1 2 = IM 1 2)
    (hT : GTab (JX 2) (JX 3) (JX 4) (JX 5) (JM 1) (JM 4) (JM 5) (JM 6) (JM 7) (JM 0 6)) (hR : GRng (JM 1) (JM 4) (JM 5) (JM 6) (JM 7) (JM 0 6)) : GInv JX JM := by
  have e1 : xP JX 72 24 = xP IX 72 24 := xP_congr (fun c h1 h2 => hX c (by omega) (by omega))
  have e2 : xP JX 35 34 = xP IX 35 34 := xP_congr (fun c h1 h2 => hX c (by omega) (by omega))
  unfold GInv GWorld GFix at *
  simp (disch := decide) only [hX, hM, h0, h2, h3, h03, h12, e1, e2]
  obtain ⟨hF, h5, ⟨t1, t2, t3⟩, hPa, hO⟩ := h
  exact ⟨hF, h5, ⟨hT, hR, t3⟩, hPa.none, hO⟩
theorem sim_boat : S_boat GInv := by
  intro x1 x2 x3 x4 IX IM h
  have h9 := ginv_told (v := 0) h
  generalize hI : mw IM 0 0 0 = I1 at h9
  have hT := h9.2.2.1.1
  have hR := h9.2.2.1.2.1
  obtain ⟨n, en, hn, -⟩ := gIn_n hR.1
  have e5 : IX 2 5 = nI n := hT.1.2.2.2.2.2.trans en
  simp only [F_Mo_boat, fstf_d, hI, isSeat_w _ I1 IX, isIn_within _ _ _ I1 IX, F_Gb_boat, J_Gb_boat_55, J_Gb_boat_56, show F_Mo_shoreOf x4 I1 = F_Gb_shoreOf x4 IX from rfl, ↓reduceIte, en, e5]
  by_cases c1 : F_Gb_within x1 0 4 IX = 0
  · exact ⟨-1, IX, I1, by rw [if_pos c1], by rw [if_pos c1], h9⟩
  rw [if_neg c1, if_neg c1]
  by_cases c2 : F_Gb_within x2 0 99 IX = 0
  · exact ⟨-1, IX, I1, by rw [if_pos c2], by rw [if_pos c2], h9⟩
  rw [if_neg c2, if_neg c2]
  by_cases c3 : F_Gb_within x3 0 11 IX = 0
  · exact ⟨-1, IX, I1, by rw [if_pos c3], by rw [if_pos c3], h9⟩
  rw [if_neg c3, if_neg c3]
  by_cases c4 : F_Gb_within x4 0 1 IX = 0
  · exact ⟨-1, IX, I1, by rw [if_pos c4], by rw [if_pos c4], h9⟩
  rw [if_neg c4, if_neg c4, if_neg (show ¬ (1 : Int32) = 0 by decide)]
  by_cases c5 : x3 = F_Gb_shoreOf x4 IX
  · exact ⟨-1, IX, I1, by rw [if_pos c5], by rw [if_pos c5], h9⟩
  rw [if_neg c5, if_neg c5]
  by_cases c6 : n = 8
  · exact ⟨-1, IX, I1, by rw [if_neg (by rw [c6]; decide)], by rw [if_pos (by rw [c6]; rfl)], h9⟩
  have hn7 : n < 8 := by omega
  have c7 : ¬ nI n = 8 := fun q => c6 ((nI_eq (a := n) (b := 8) (by omega) (by decide)).mp q)
  rw [if_neg c7, if_pos (show nI n < 8 from nI_lt (b := 8) (by omega) (by decide)), nI_1]
  rw [show (0 : Int32) = nI 0 from rfl, show (1 : Int32) = nI 1 from rfl, show (2 : Int32) = nI 2 from rfl, show (3 : Int32) = nI 3 from rfl, show (4 : Int32) = nI 4 from rfl, show (5 : Int32) = nI 5 from rfl]
  refine ⟨nI n, ?_, ?_, ?_, ?_, ?_⟩
  · exact mw (mw (mw (mw (mw (mw (mw (mw IX 2 5 (nI (n + 1))) 4 (8 * 0 + n) x1) 4 (8 * 1 + n) x2) 4 (8 * 2 + n) x3) 4 (8 * 3 + n) x4) 4 (8 * 4 + n) (nI 0)) 4 (8 * 5 + n) (nI 0)) 69 3 0
  · exact mw (mw (mw (mw (mw (mw (mw (mw I1 7 n x1) 1 (40 + n) x2) 1 (48 + n) x3) 1 (56 + n) x4) 1 (64 + n) 0) 1 (72 + n) 0) 0 6 (nI (n + 1))) 0 3 0
  · rw [putBoat_n (by omega) hn7, fbd_s, putBoat_n (by omega) hn7, fbd_s, putBoat_n (by omega) hn7, fbd_s, putBoat_n (by omega) hn7, fbd_s, putBoat_n (by omega) hn7, fbd_s, putBoat_n (by omega) hn7, fbd_s]
    rfl
  · have en' : ∀ J : gb_Mem, (J 0 6 = nI n) → ∀ a k v, a ≠ 0 → mw J a k v 0 6 = nI n := fun J hJ a k v ha => by rw [mw_ne (Ne.symm ha)]; exact hJ
    rw [fsto_n hn7 (by decide)]
    have f1 := en' I1 en 7 n x1 (by decide)
    rw [f1, show (40 : Int32) + nI n = nI (40 + n) from nI_add 40 n, fsto_n (by omega) (by decide)]
    have f2 := en' _ f1 1 (40 + n) x2 (by decide)
    rw [f2, show (48 : Int32) + nI n = nI (48 + n) from nI_add 48 n, fsto_n (by omega) (by decide)]
    have f3 := en' _ f2 1 (48 + n) x3 (by decide)
    rw [f3, show (56 : Int32) + nI n = nI (56 + n) from nI_add 56 n, fsto_n (by omega) (by decide)]
    have f4 := en' _ f3 1 (56 + n) x4 (by decide)
    rw [f4, show (64 : Int32) + nI n = nI (64 + n) from nI_add 64 n, fsto_n (by omega) (by decide)]
    have f5 := en' _ f4 1 (64 + n) 0 (by decide)
    rw [show (nI 0 : Int32) = 0 from rfl, f5, show (72 : Int32) + nI n = nI (72 + n) from nI_add 72 n, fsto_n (by omega) (by decide)]
    have f6 := en' _ f5 1 (72 + n) 0 (by decide)
    rw [f6, show nI n + nI 1 = nI (n + 1) from nI_add n 1]
    have f7 : ∀ J : gb_Mem, mw (mw J 0 6 (nI (n + 1))) 0 3 0 0 6 = nI (n + 1) := fun J => by rw [mw_eq, pk_un (by decide), mw_eq, pk_us]
    rw [f7, show nI (n + 1) - nI 1 = nI n from nI_pred n]
  · have r1 : gIn x1 0 4 := within_in c1
    have r2 : gIn x2 0 99 := within_in c2
    have r3 : gIn x3 0 11 := within_in c3
    have r4 : gIn x4 0 1 := within_in c4
    refine ginv_tab h9 (fun c d1 d2 => ?_) ?_ ?_ (fun c d1 d2 d3 => ?_) (fun j d1 d2 d3 => ?_) ?_ ?_ ?_ ?_
    · rw [mw_ne d2, mw_ne (by omega), mw_ne (by omega), mw_ne (by omega), mw_ne (by omega), mw_ne (by omega), mw_ne (by omega), mw_ne (by omega)]
    · simp +decide (disch := decide) only [mw_ne, mw_eq, mset_ne, mset_eq, upd_ap, xP_mw, xP_mset, ↓reduceIte]
    · simp +decide (disch := decide) only [mw_ne, mw_eq, mset_ne, mset_eq, upd_ap, xP_mw, xP_mset, ↓reduceIte]
    · rw [mw_ne d1, mw_ne d1, mw_ne d2, mw_ne d2, mw_ne d2, mw_ne d2, mw_ne d2, mw_ne (by omega)]
    · rw [mw_eq, pk_un d2, mw_eq, pk_un d3, mw_ne (by decide), mw_ne (by decide), mw_ne (by decide), mw_ne (by decide), mw_ne (by decide), mw_ne (by decide)]
    · simp +decide (disch := decide) only [mw_ne, mw_eq, mset_ne, mset_eq, upd_ap, xP_mw, xP_mset, ↓reduceIte]
    · rw [mw_ne (by decide), mw_ne (by decide), mw_eq, pk_un (by omega), mw_eq, pk_un (by omega), mw_eq, pk_un (by omega), mw_eq, pk_un (by omega), mw_eq, pk_un (by omega), mw_ne (by decide)]
    · have z := ((((((hT.boats (v := nI (n + 1))).kind (v := x1) hn7).pb (w := 1) (v := x2) (by omega) (by omega) hn7).pb (w := 2) (v := x3) (by omega) (by omega) hn7).pb (w := 3) (v := x4) (by omega) (by omega) hn7).pb (w := 4) (v := 0) (by omega) (by omega) hn7).pb (w := 5) (v := 0) (by omega) (by omega) hn7
      simp +decide (disch := decide) only [mw_ne, mw_eq]
      rw [show upd (upd (I1 0) 6 (nI (n + 1))) 3 0 6 = nI (n + 1) by rw [pk_un (by decide), pk_us], show 8 * 0 + n = n by omega]
      exact z
    · simp +decide (disch := decide) only [mw_ne, mw_eq]
      rw [show upd (upd (I1 0) 6 (nI (n + 1))) 3 0 6 = nI (n + 1) by rw [pk_un (by decide), pk_us]]
      have z : GRng (I1 1) (I1 4) (I1 5) (I1 6) (upd (I1 7) n x1) (nI (n + 1)) := by
        obtain ⟨g1, g2, g3⟩ := hR
        refine ⟨(gIn_nI (by omega)).mpr ⟨by omega, by omega⟩, g2, fun b hb => ⟨gIn_upd (fun _ => r1) (g3 b hb).1, (g3 b hb).2⟩⟩
      exact ((((z.put (fun s _ q => by omega) (fun s _ q => by omega) (fun s _ q => by omega) (fun b hb q => r2)).put (fun s _ q => by omega) (fun b hb q => r3) (fun s _ q => by omega) (fun s _ q => by omega)).put (fun s _ q => by omega) (fun s _ q => by omega) (fun b hb q => r4) (fun s _ q => by omega)).put0 (by omega)).put0 (by omega)
