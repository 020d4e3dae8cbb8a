/-! minutes, act, goes, brings. -/
theorem ginv_gco {X M : gb_Mem} (h : GInv X M) : GCo 2 100 X M := by
  obtain ⟨hF, h5, ⟨t1, t2, t3, t4, t5, t6, t7⟩, hO⟩ := h
  exact ⟨t1, t2, t4, t5, t6, hF.2.2.1.1.trans h5.symm, fun _ => ⟨hF.1.2.2.2.1, t3⟩⟩
theorem GPast.mono {nx ct : Int32} {ls : Nat → Int32} {tb : gb_Mem} {rw0 : Nat → Int32} {un sz sz2 : Int32} {st th pi kd : Nat → Int32} {bo : Int32} (h : GPast nx ct ls tb rw0 un sz st th pi kd bo) (hz : sz.toInt ≤ sz2.toInt) : GPast nx ct ls tb rw0 un sz2 st th pi kd bo := by
  obtain ⟨h1, x, k, hx, hk, e1, e2, h2⟩ := h
  refine ⟨h1, x, k, hx, hk, e1, e2, fun i hi => ?_⟩
  obtain ⟨p1, p2, p3, p4⟩ := h2 i hi
  refine ⟨p1, p2, p3, p4.1, ?_⟩
  have p5 := p4.2
  by_cases c : i + 1 < k
  · rw [if_pos c] at p5 ⊢; exact p5
  · rw [if_neg c] at p5 ⊢; exact Int.le_trans p5 hz
theorem ginv_st {X M Z O : gb_Mem} (h : GInv X M) (hS : GSt 2 100 X M Z O) : GInv Z O := by
  obtain ⟨⟨cT, cR, cL, cV, cD, cH, cB⟩, f1, f2, f3, f4, f5, f6, f7, f8⟩ := hS
  have hX : ∀ c, (c < 2 ∨ 5 < c) ∧ c ≠ 6 ∧ c ≠ 10 ∧ c ≠ 17 ∧ c ≠ 18 ∧ c ≠ 101 → Z c = X c := fun c ⟨z1, z2, z3, z4, z5, z6⟩ => f1 c (by omega) z2 z3 z4 z5 z6
  have hM : ∀ c, c ≠ 0 ∧ c ≠ 1 ∧ c ≠ 8 ∧ c ≠ 22 ∧ c ≠ 23 → O c = M c := fun c ⟨z1, z2, z3, z4, z5⟩ => f4 c z1 z2 z3 z4 z5
  have e1 : xP Z 72 24 = xP X 72 24 := xP_congr (fun c h1 h2 => hX c (by omega))
  have e2 : xP Z 35 34 = xP X 35 34 := xP_congr (fun c h1 h2 => hX c (by omega))
  have h05 : O 0 5 = 0 := (f5 5 (by decide)).trans h.2.1
  have hBk := (cB h05).2
  rw [hM 4 (by decide), hM 5 (by decide), hM 6 (by decide), hM 7 (by decide), f5 6 (by decide)] at cT cR
  clear cL cV cD cH cB f1 f4 f6 f8
  unfold GInv GWorld GFix at *
  simp (disch := decide) only [hX, hM, f5, f2, f3, e1, e2]
  obtain ⟨hF, h5, ⟨t1, t2, t3, t4⟩, hPa, hO⟩ := h
  exact ⟨hF, h5, ⟨cT, cR, hBk, t4⟩, hPa.mono f7, hO⟩
theorem min_l {x : Nat} (hx : x ≤ 60) : ∀ m i f f' X M acc, GInv X M → i + m = x → m < f → m < f' → ∃ r Z O, L_Gb_minutes_34 (nI x) f acc (nI i) X = some (r, Z) ∧ L_Mo_minutes_36 (nI x) f' acc (nI i) M = some (r, O) ∧ GInv Z O := by
  intro m
  induction m with
  | zero =>
    intro i f f' X M acc h hi hf hf'
    obtain ⟨f, rfl⟩ : ∃ g, f = g + 1 := ⟨f - 1, by omega⟩
    obtain ⟨f', rfl⟩ : ∃ g, f' = g + 1 := ⟨f' - 1, by omega⟩
    simp only [L_Gb_minutes_34, L_Mo_minutes_36]
    rw [if_pos (nI_le (by omega) (by omega)), if_pos (nI_le (by omega) (by omega))]
    exact ⟨acc, X, M, rfl, rfl, h⟩
  | succ m ih =>
    intro i f f' X M acc h hi hf hf'
    obtain ⟨f, rfl⟩ : ∃ g, f = g + 1 := ⟨f - 1, by omega⟩
    obtain ⟨f', rfl⟩ : ∃ g, f' = g + 1 := ⟨f' - 1, by omega⟩
    simp only [L_Gb_minutes_34, L_Mo_minutes_36]
    rw [if_neg (nI_ge (by omega) (by omega)), if_neg (nI_ge (by omega) (by omega))]
    obtain ⟨JX, JM, k1, k2, hJ, -⟩ := past_keep h
    rw [k1, k2, fbd_s, fbd_s]
    obtain ⟨r, Z, O, u1, u2, u3, -⟩ := gst_min (Or.inl ⟨rfl, rfl⟩) (ginv_gco hJ) (bb := 0) (by decide)
    rw [u1, u2]
    simp only [fbd_s, nI_1]
    exact ih (i + 1) f f' Z O (acc + r) (ginv_st hJ u3) (by omega) (by omega) (by omega)
theorem sim_minutes : S_minutes GInv := by
  intro x1 IX IM h
  have h9 := ginv_told (v := 0) h
  generalize hI : mw IM 0 0 0 = I1 at h9
  have e4 : IX 2 4 = I1 1 0 := h9.2.2.1.1.1.2.2.2.2.1
  simp only [F_Mo_minutes, fstf_d, hI, isIn_within _ _ _ I1 IX, F_Gb_minutes, e4]
  by_cases c1 : F_Gb_within x1 1 60 IX = 0
  · exact ⟨-1, IX, I1, by rw [if_pos c1], by rw [if_pos c1], h9⟩
  rw [if_neg c1, if_neg c1]
  obtain ⟨n, rfl, -, hn⟩ := wi_rng 1 60 c1 rfl rfl (by decide) (by decide)
  by_cases c2 : I1 1 0 + nI n ≤ 9999
  · rw [if_pos c2, if_pos c2, fbd_p, fbd_p]
    exact min_l hn n 0 5000 5000 IX I1 0 h9 (by omega) (by omega) (by omega)
  · exact ⟨-1, IX, I1, by rw [if_neg c2], by rw [if_neg c2], h9⟩
theorem sim_act : S_act GInv := by
  intro x1 x2 x3 IX IM h
  have h9 := ginv_told (v := 0) h
  generalize hI : mw IM 0 0 0 = I1 at h9
  have hT := h9.2.2.1.1
  have hR := h9.2.2.1.2.1
  have hC := ginv_gco h9
  have ht : gTH 2 100 := Or.inl ⟨rfl, rfl⟩
  obtain ⟨n, en, hn, -⟩ := gIn_n hR.1
  have e5 : IX 2 5 = nI n := hT.1.2.2.2.2.2.trans en
  simp only [F_Mo_act, fstf_d, hI, F_Gb_act]
  obtain ⟨JX, JM, k1, k2, hJ, -, kM, k0⟩ := past_keep h9
  have hCJ := ginv_gco hJ
  have hS0 : GSt 2 100 JX JM JX JM := ⟨hCJ, GFr.same⟩
  have hJ1 : JM 1 = I1 1 := kM 1 (by decide) (by decide)
  -- a boat's number
  have boat : ¬ F_Gb_within x2 0 (nI n - 1) IX = 0 → ∃ b, x2 = nI b ∧ b < 8 := by
    intro c1
    cases n with
    | zero =>
      exfalso
      have := within_in c1
      unfold gIn at this
      rw [show (nI 0 - 1 : Int32).toInt = -1 from rfl, show (0 : Int32).toInt = 0 from rfl] at this
      omega
    | succ n =>
      rw [nI_pred] at c1
      obtain ⟨s, e, hs⟩ := wi_num c1 (by omega)
      exact ⟨s, e, by omega⟩
  have no : F_Gb_canAct x1 x2 x3 IX = some 0 → F_Mo_canAct x1 x2 x3 I1 = some 0 → ∃ r IX2 IM2, (fbd (F_Gb_canAct x1 x2 x3 IX) fun r1 => if r1 = 0 then some (0, IX) else fbd (F_Pa_keep 1 IX) fun I2 => if x1 = 0 then fbd (F_Co_passByHand 100 2 x2 x3 I2) fun I6 => some (1, I6) else if x1 = 1 then fbd (F_Co_pourByHand 100 2 x2 x3 I2) fun I5 => some (1, I5) else if x1 = 2 then fbd (F_Co_salt 100 2 x2 I2) fun I4 => some (1, I4) else some (1, mw I2 2 2 x3)) = some (r, IX2) ∧ (fbd (F_Mo_canAct x1 x2 x3 I1) fun r2 => if r2 = 0 then some (0, I1) else fbd (F_Mo_keepsAhead I1) fun I3 => if x1 = 0 then fsto I3 1 80 (48 + x2) x3 fun I10 => fbd (F_Mo_notes 3 x2 x3 I10) fun I11 => fbd (F_Mo_lands x2 I11) fun (r13, I12) => J_Mo_act_48 x1 x2 x3 I12 else J_Mo_act_48 x1 x2 x3 I3) = some (r, IM2) ∧ GInv IX2 IM2 := by
    intro z1 z2
    rw [z1, z2]
    exact ⟨0, IX, I1, rfl, rfl, h9⟩
  by_cases a3 : x1 = 3
  · subst a3
    by_cases c : F_Gb_within x3 1 9 IX = 0
    · refine no ?_ ?_
      · unfold F_Gb_canAct
        rw [if_pos rfl, c]
      · unfold F_Mo_canAct
        rw [if_neg (by decide), if_neg (by decide), if_neg (by decide), if_pos rfl, isIn_within _ _ _ I1 IX, if_pos c]
    · have z1 : F_Gb_canAct 3 x2 x3 IX = some 1 := by
        unfold F_Gb_canAct
        rw [if_pos rfl, (within_b _ _ _ _).resolve_left c]
      have z2 : F_Mo_canAct 3 x2 x3 I1 = some 1 := by
        unfold F_Mo_canAct
        rw [if_neg (by decide), if_neg (by decide), if_neg (by decide), if_pos rfl, isIn_within _ _ _ I1 IX, if_neg c]
      have g := gst_num ht hS0 (k := 2) (w := 4) (v := x3) (by omega)
      rw [z1, z2, fbd_s, fbd_s, if_neg (by decide), if_neg (by decide), k1, k2, fbd_s, fbd_s, if_neg (by decide), if_neg (by decide), if_neg (by decide), if_neg (by decide)]
      refine ⟨1, _, _, rfl, ?_, ginv_st hJ g⟩
      unfold J_Mo_act_48 J_Mo_act_94 J_Mo_act_104
      rw [if_neg (by decide), if_neg (by decide), if_pos rfl, fstf_d]
  by_cases a2 : x1 = 2
  · subst a2
    by_cases c : F_Gb_within x2 0 11 IX = 0
    · refine no ?_ ?_
      · unfold F_Gb_canAct
        rw [if_neg (by decide), if_pos rfl, if_pos c]
      · unfold F_Mo_canAct J_Mo_canAct_113
        rw [if_neg (by decide), if_neg (by decide), if_pos rfl, isSeat_w _ I1 IX, if_pos c]
    · obtain ⟨s, rfl, hs⟩ := wi_num (m := 11) c (by decide)
      have hs12 : s < 12 := by omega
      obtain ⟨s2, s3, s4⟩ := co_rs hC hs12
      by_cases d : I1 1 (18 + s) ≤ 0
      · refine no ?_ ?_
        · unfold F_Gb_canAct
          rw [if_neg (by decide), if_pos rfl, if_neg c, s4, fbd_s, if_pos d]
        · unfold F_Mo_canAct J_Mo_canAct_113
          rw [if_neg (by decide), if_neg (by decide), if_pos rfl, isSeat_w _ I1 IX, if_neg c, k18, flod_n (by omega) (by decide), if_pos d]
      · have z1 : F_Gb_canAct 2 (nI s) x3 IX = some 1 := by
          unfold F_Gb_canAct
          rw [if_neg (by decide), if_pos rfl, if_neg c, s4, fbd_s, if_neg d]
        have z2 : F_Mo_canAct 2 (nI s) x3 I1 = some 1 := by
          unfold F_Mo_canAct
          rw [if_neg (by decide), if_neg (by decide), if_pos rfl, isSeat_w _ I1 IX, if_neg c, k18, flod_n (by omega) (by decide), if_neg d]
        obtain ⟨Z, O, u1, u2, u3, -⟩ := gst_salt ht hS0 hs12
        rw [z1, z2, fbd_s, fbd_s, if_neg (by decide), if_neg (by decide), k1, k2, fbd_s, fbd_s, if_neg (by decide), if_neg (by decide), if_pos rfl, if_neg (by decide), u1, fbd_s]
        refine ⟨1, _, O, rfl, ?_, ginv_st hJ u3⟩
        unfold J_Mo_act_48 J_Mo_act_94 J_Mo_act_104
        rw [if_neg (by decide), if_pos rfl, u2, fbd_s, if_neg (by decide)]
  have hB : F_Mo_isBoat x2 I1 = F_Gb_within x2 0 (nI n - 1) IX := isBoat_w I1 IX en (by omega)
  by_cases a1 : x1 = 1
  · subst a1
    by_cases c : F_Gb_within x2 0 (nI n - 1) IX = 0
    · refine no ?_ ?_
      · unfold F_Gb_canAct
        rw [if_neg (by decide), if_neg (by decide), e5, if_pos c]
      · unfold F_Mo_canAct
        rw [if_neg (by decide), if_pos rfl, hB, if_pos c]
    · obtain ⟨b, rfl, hb⟩ := boat c
      obtain ⟨d0, d1, d2, d3, d4, d5⟩ := co_rd hC hb
      by_cases d : F_Gb_within x3 1 (I1 1 (40 + b)) IX = 0
      · refine no ?_ ?_
        · unfold F_Gb_canAct
          rw [if_neg (by decide), if_neg (by decide), e5, if_neg c, if_pos rfl, d1, fbd_s, d]
        · unfold F_Mo_canAct
          rw [if_neg (by decide), if_pos rfl, hB, if_neg c, k40, flod_n (by omega) (by decide), isIn_within _ _ _ I1 IX, if_pos d]
      · have z1 : F_Gb_canAct 1 (nI b) x3 IX = some 1 := by
          unfold F_Gb_canAct
          rw [if_neg (by decide), if_neg (by decide), e5, if_neg c, if_pos rfl, d1, fbd_s, (within_b _ _ _ _).resolve_left d]
        have z2 : F_Mo_canAct 1 (nI b) x3 I1 = some 1 := by
          unfold F_Mo_canAct
          rw [if_neg (by decide), if_pos rfl, hB, if_neg c, k40, flod_n (by omega) (by decide), isIn_within _ _ _ I1 IX, if_neg d]
        obtain ⟨f, ef, hf, -⟩ := gIn_n (hR.2.2 b hb).2.2.2
        rw [ef] at d
        obtain ⟨y, rfl, hy1, hy⟩ := wi_rng 1 f (lo := 1) (hi := nI f) d rfl rfl (by
          refine Classical.byContradiction fun q => d ?_
          rw [within_0]
          intro ⟨w1, w2⟩
          have w3 := Int32.le_iff_toInt_le.mp (Int32.le_trans w1 w2)
          rw [nI_toInt (by omega), show (1 : Int32).toInt = 1 from rfl] at w3
          omega) (by omega)
        have efJ : JM 1 (40 + b) = nI f := by rw [hJ1]; exact ef
        obtain ⟨b0, b1, -⟩ := co_rd hCJ hb
        have g1 := gst_full (v := nI f - nI y) ht hS0 hb (by rw [pk_sub hy]; exact (gIn_nI (by omega)).mpr ⟨by omega, by omega⟩)
        obtain ⟨Y1, hY1⟩ : ∃ Z, Z = mw JX (2 + 2) (8 + b) (nI f - nI y) := ⟨_, rfl⟩
        obtain ⟨N1, hN1⟩ : ∃ Z, Z = mw JM 1 (40 + b) (nI f - nI y) := ⟨_, rfl⟩
        rw [← hY1, ← hN1] at g1
        have eD : Y1 2 1 = N1 1 3 := g1.1.1.1.2.1
        have g2 := gst_num ht g1 (k := 1) (w := 3) (v := N1 1 3 + nI y) (by omega)
        obtain ⟨Z, O, u1, u2, u3, -⟩ := gst_note ht g2 0 (nI b) (nI y)
        rw [z1, z2, fbd_s, fbd_s, if_neg (by decide), if_neg (by decide), k1, k2, fbd_s, fbd_s, if_neg (by decide), if_pos rfl, if_neg (by decide)]
        refine ⟨1, Z, O, ?_, ?_, ginv_st hJ u3⟩
        · unfold F_Co_pourByHand
          rw [b1, fbd_s, efJ, pb_1 hb, fbd_s, ← hY1, fstf_d, eD, u1, fbd_s, fbd_s]
        · unfold J_Mo_act_48 J_Mo_act_94 J_Mo_act_104
          rw [if_pos rfl, k40, flod_n (by omega) (by decide), efJ, fsto_n (by omega) (by decide), ← hN1, fstf_d, u2, fbd_s, if_neg (by decide), if_neg (by decide)]
  by_cases a0 : x1 = 0
  · subst a0
    by_cases c : F_Gb_within x2 0 (nI n - 1) IX = 0
    · refine no ?_ ?_
      · unfold F_Gb_canAct
        rw [if_neg (by decide), if_neg (by decide), e5, if_pos c]
      · unfold F_Mo_canAct
        rw [if_pos rfl, hB, if_pos c]
    · obtain ⟨b, rfl, hb⟩ := boat c
      obtain ⟨d0, d1, d2, d3, d4, d5⟩ := co_rd hC hb
      by_cases d : F_Gb_within x3 0 11 IX = 0
      · refine no ?_ ?_
        · unfold F_Gb_canAct
          rw [if_neg (by decide), if_neg (by decide), e5, if_neg c, if_neg (by decide), if_pos rfl, if_pos d]
        · unfold F_Mo_canAct
          rw [if_pos rfl, hB, if_neg c, isSeat_w _ I1 IX, if_pos d]
      · obtain ⟨y, rfl, hy⟩ := wi_num (m := 11) d (by decide)
        obtain ⟨s, es, hs, -⟩ := gIn_n (hR.2.2 b hb).2.1
        obtain ⟨v, r1, r2, -⟩ := reach_eq (s := s) h9.2.2.1.2.2.2.2.2.2.1 (by omega)
        have q1 : F_Gb_canAct 0 (nI b) (nI y) IX = if tb v y = true then some 1 else some 0 := by
          unfold F_Gb_canAct
          rw [if_neg (by decide), if_neg (by decide), e5, if_neg c, if_neg (by decide), if_pos rfl, if_neg d, d2, fbd_s, es, r1, fbd_s]
          by_cases e : tb v y = true
          · rw [if_pos e, if_pos ((tb_shr (by omega)).mpr e)]
          · rw [if_neg e, if_neg (fun q => e ((tb_shr (by omega)).mp q))]
        have q2 : F_Mo_canAct 0 (nI b) (nI y) I1 = if tb v y = true then some 1 else some 0 := by
          unfold F_Mo_canAct
          rw [if_pos rfl, hB, if_neg c, isSeat_w _ I1 IX, if_neg d, k48, flod_n (by omega) (by decide), es, r2, fbd_s, has_n (by omega)]
          by_cases e : tb v y = true
          · rw [if_pos e, if_pos e, if_neg (by decide)]
          · rw [if_neg e, if_neg e, if_pos rfl]
        by_cases e : tb v y = true
        · rw [if_pos e] at q1 q2
          have g1 := gst_at (v := nI y) ht hS0 hb ((gIn_nI (by omega)).mpr ⟨by omega, by omega⟩)
          obtain ⟨Z, O, u1, u2, u3, u4, u5, u6⟩ := gst_note ht g1 3 (nI b) (nI y)
          rw [q1, q2, fbd_s, fbd_s, if_neg (by decide), if_neg (by decide), k1, k2, fbd_s, fbd_s, if_pos rfl, if_pos rfl, k48, fsto_n (by omega) (by decide), u2, fbd_s]
          unfold F_Co_passByHand
          rw [pb_2 hb, fbd_s, u1, fbd_s]
          have fin : ∀ I, J_Mo_act_48 0 (nI b) (nI y) I = some (1, I) := by
            intro I
            unfold J_Mo_act_48 J_Mo_act_94 J_Mo_act_104
            rw [if_neg (by decide), if_neg (by decide), if_neg (by decide)]
          by_cases a : gAsh O b
          · obtain ⟨Z2, O2, m, v1, v2, v3, -⟩ := gst_land ht u3 hb a
            refine ⟨1, Z2, O2, ?_, ?_, ginv_st hJ v3⟩
            · rw [((co_ash u3.1 hb).1 a).1, fbd_s, if_neg (by decide), v1, fbd_s, fbd_s]
            · rw [v2, fbd_s]; exact fin O2
          · refine ⟨1, Z, O, ?_, ?_, ginv_st hJ u3⟩
            · rw [((co_ash u3.1 hb).2 a).1, fbd_s, if_pos rfl, fbd_s]
            · have : F_Mo_lands (nI b) O = some (0, O) := by
                unfold F_Mo_lands
                rw [((co_ash u3.1 hb).2 a).2, fbd_s, if_pos rfl]
              rw [this, fbd_s]; exact fin O
        · rw [if_neg e] at q1 q2
          exact no q1 q2
  · refine no ?_ ?_
    · unfold F_Gb_canAct
      rw [if_neg a3, if_neg a2, if_neg a1, if_neg a0]
      simp only [ite_self]
    · unfold F_Mo_canAct
      rw [if_neg a0, if_neg a1, if_neg a2, if_neg a3]
