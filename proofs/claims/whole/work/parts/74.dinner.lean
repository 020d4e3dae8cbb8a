/-! DINNER. -/
section DINNER
variable {T : Nat → Nat} {len : Nat} {L : List (Nat × Nat)} {X0 M0 X M Y N : gb_Mem} {i k p sz : Nat}
theorem MF.w20 {j : Nat} {v : Int32} (h : MF M N) (hj : 64 ≤ j) : MF M (mw N 20 j v) := by
  obtain ⟨h1, h2, h3, h4, h5, h6, h7⟩ := h
  exact ⟨fun c c0 c1 => by rw [mw_ne (by omega)]; exact h1 c c0 c1, fun k k1 k2 k3 k4 k5 k6 => by rw [mw_ne (by decide)]; exact h2 k k1 k2 k3 k4 k5 k6, fun c k a b d => by rw [mw_ne (by omega)]; exact h3 c k a b d, fun c k a b d => by rw [mw_ne (by omega)]; exact h4 c k a b d, fun k a => by rw [mw_ne (by decide)]; exact h5 k a, fun k a => by rw [mw_eq, pk_un (by omega)]; exact h6 k a, fun k a => by rw [mw_ne (by decide)]; exact h7 k a⟩
theorem PS.w20 {j : Nat} {v : Int32} (h : PS T len L X0 M0 i X M) (hj : 64 ≤ j) : PS T len L X0 M0 i X (mw M 20 j v) := by
  obtain ⟨a1, a2, a3, a4, a5, a6, a7, a8⟩ := h
  exact ⟨a1, a2, a3, a4, a5.w20 hj, by rw [mw_ne (by decide)]; exact a6, by rw [mw_ne (by decide)]; exact a7, by rw [mw_ne (by decide)]; exact a8⟩
theorem ME.w20 {j q : Nat} {v : Int32} (h : ME M0 k q M) (hj : 64 ≤ j) : ME M0 k q (mw M 20 j v) := by
  obtain ⟨a1, a2, a3⟩ := h
  exact ⟨a1.w20 hj, by rw [mw_ne (by decide)]; exact a2, by rw [mw_ne (by decide)]; exact a3⟩
theorem j82_e (hP : PC T len L X0 M0) (h : XE X0 k p X) (hs : X 119 2 = nI sz) (hz : sz ≤ 16) (x1 x2 s0 : Int32) : ∃ Y s2, J_Rd_readEvent_82 x1 x2 s0 X = some Y ∧ XE X0 k p Y ∧ Y 119 2 = nI s2 ∧ s2 ≤ 16 := by
  obtain ⟨r1, e1⟩ := tnum_e hP h 0 s0
  obtain ⟨r2, e2⟩ := tnum_e hP h 0 99
  unfold J_Rd_readEvent_82 J_Rd_readEvent_117
  rw [e1]
  simp only [fbd_s]
  rw [e2]
  simp only [fbd_s]
  by_cases c : x2 = 224
  · rw [if_pos c]
    obtain ⟨r, Y, s2, a1, a2, a3, a4⟩ := radd_e hP h hs hz x1 x2 r1 r2
    rw [a1]; exact ⟨Y, s2, rfl, a2, a3, a4⟩
  · rw [if_neg c]
    obtain ⟨r, Y, s2, a1, a2, a3, a4⟩ := radd_e hP h hs hz x1 x2 r1 0
    rw [a1]; exact ⟨Y, s2, rfl, a2, a3, a4⟩
def evT (r2 : Int32) (I1 : gb_Mem) : Option gb_Mem := fbd (F_Rd_now I1) fun r3 => if r3 = 212 then J_Rd_readEvent_40 r2 r3 I1 else if (F_Gb_within r3 222 225 I1) = 0 then fbd (F_Rd_refuse 1 I1) fun I11 => some I11 else J_Rd_readEvent_40 r2 r3 I1
theorem evT_e (hP : PC T len L X0 M0) (h : XE X0 k p X) (hs : X 119 2 = nI sz) (hz : sz ≤ 16) (r2 : Int32) : ∃ Y s2, evT r2 X = some Y ∧ XE X0 k p Y ∧ Y 119 2 = nI s2 ∧ s2 ≤ 16 := by
  obtain ⟨r3, e3⟩ := now_e hP h
  have j40 : ∃ Y s2, J_Rd_readEvent_40 r2 r3 X = some Y ∧ XE X0 k p Y ∧ Y 119 2 = nI s2 ∧ s2 ≤ 16 := by
    unfold J_Rd_readEvent_40 J_Rd_readEvent_71
    rw [take_e hP h, fbd_s]
    by_cases c1 : r3 = 223
    · rw [if_pos c1]; exact j82_e hP h hs hz _ _ _
    · rw [if_neg c1]
      by_cases c2 : r3 = 224
      · rw [if_pos c2]; exact j82_e hP h hs hz _ _ _
      · rw [if_neg c2]
        by_cases c3 : r3 = 225
        · rw [if_pos c3]; exact j82_e hP h hs hz _ _ _
        · rw [if_neg c3]; exact j82_e hP h hs hz _ _ _
  unfold evT
  rw [e3, fbd_s]
  by_cases c1 : r3 = 212
  · rw [if_pos c1]; exact j40
  · rw [if_neg c1]
    by_cases c2 : F_Gb_within r3 222 225 X = 0
    · rw [if_pos c2, ref_e h, fbd_s]; exact ⟨X, sz, rfl, h, hs, hz⟩
    · rw [if_neg c2]; exact j40
theorem ev_T (X : gb_Mem) : F_Rd_readEvent X = fbd (F_Rd_takeNumber 0 999 X) fun (r2, I1) => evT r2 I1 := rfl
theorem event_e (hP : PC T len L X0 M0) (h : XE X0 k p X) (hs : X 119 2 = nI sz) (hz : sz ≤ 16) : ∃ Y s2, F_Rd_readEvent X = some Y ∧ XE X0 k p Y ∧ Y 119 2 = nI s2 ∧ s2 ≤ 16 := by
  obtain ⟨r1, e1⟩ := tnum_e hP h 0 999
  rw [ev_T, e1]
  exact evT_e hP h hs hz r1
theorem GDin.add {c d : Nat → Int32} {x1 x2 x3 x4 : Int32} (h : GDin (nI k) c (nI k) d) (hk : k < 16) (h2 : x2 = 212 ∨ gIn x2 222 225) (h3 : x2 = 223 → gIn x3 0 11) (h4 : x2 = 224 ∨ x2 = 225 → gIn x3 0 7) (h5 : x2 = 224 → gIn x4 0 99) : GDin (nI (k + 1)) (up4 c k x1 x2 x3 x4) (nI (k + 1)) (up4 d k x1 (gDeed x2) x3 x4) := by
  obtain ⟨-, k2, hk2, e2, h9⟩ := h
  have : k = k2 := (nI_eq (by omega) (by omega)).mp e2
  subst this
  refine ⟨rfl, k + 1, by omega, rfl, fun i hi => ?_⟩
  by_cases e : i = k
  · subst e
    rw [up4_0, up4_1, up4_2, up4_3, up4_0, up4_1, up4_2, up4_3]
    exact ⟨rfl, rfl, rfl, rfl, h2, h3, h4, h5⟩
  · rw [up4_lt (by omega), up4_lt (by omega), up4_lt (by omega), up4_lt (by omega), up4_lt (by omega), up4_lt (by omega), up4_lt (by omega), up4_lt (by omega)]
    exact h9 i (by omega)
theorem kd_n {c : Nat} (h : TR c (M 0 16) (M 0 17)) : F_Mo_kindOfDeed M = if c = 212 then 0 else if 222 ≤ c ∧ c ≤ 225 then nI (c - 221) else -1 := by
  have ew : F_Mo_isWord 16 M = if c = 212 then 1 else 0 := word_n (w := 16) h (by decide)
  unfold F_Mo_kindOfDeed
  rw [ew]
  by_cases c1 : c = 212
  · rw [if_pos c1, if_neg (by decide), if_pos c1]
  · rw [if_neg c1, if_pos rfl, if_neg c1]
    rcases word_r h with ⟨t, w, w1, w2, w3⟩ | ⟨t, w2⟩
    · rw [if_pos t, w3, isIn_within _ _ _ M M, show F_Gb_within (nI w) 22 25 M = if 22 ≤ w ∧ w ≤ 25 then 1 else 0 from wi_if (a := 22) (b := 25) (by omega) (by decide) (by decide)]
      by_cases c2 : 22 ≤ w ∧ w ≤ 25
      · have ec : cw w = w := by unfold cw; rw [if_neg (by omega), if_neg (by omega), if_neg (by omega)]
        rw [if_pos c2, if_neg (by decide), if_pos (by omega), show (1 : Int32) + nI w = nI (1 + w) from nI_add 1 w, show nI (1 + w) - 22 = nI (1 + w - 22) from pk_sub (b := 22) (by omega)]
        exact congrArg nI (by omega)
      · rw [if_neg c2, if_pos rfl, if_neg]
        intro z
        have : cw w = w ∨ cw w < 19 := by
          unfold cw
          by_cases q1 : w < 3
          · rw [if_pos q1]; omega
          · rw [if_neg q1]
            by_cases q2 : w < 7
            · rw [if_pos q2]; omega
            · rw [if_neg q2]
              by_cases q3 : w < 19
              · rw [if_pos q3]; omega
              · rw [if_neg q3]; omega
        omega
    · rw [if_neg t, if_neg (by omega)]
def RDf (f : Nat) (x : Int32) (M : gb_Mem) : Option (Int32 × gb_Mem) := fbr (L_Mo_readDinner_2 f x M) (fun (o5, I6) => if (I6 0 16) = 0 then some (o5, I6) else fbd (F_Mo_errs 1 I6) fun (r10, I9) => some (r10, I9)) (fun (q7, I8) => some (q7, I8))
def GD (Y N : gb_Mem) (k : Int32) : Prop := GDin (Y 119 2) (Y 120) k (fun j => N 20 (64 + j))
theorem din_l2 (hP : PC T len L X0 M0) : ∀ m k f f' i X M, PS T len L X0 M0 i X M → k + m = 16 → m + 1 < f → m + 1 < f' → GD X M (nI k) → X 119 2 = nI k → LO X0 M0 GD (L_Rd_readLines_40 2 221 f (nI k) X) (RDf f' (nI k) M) := by
  intro m
  have fin0 : ∀ (f : Nat) (k : Nat) (j q : Nat) (x2 : Int32) (Y : gb_Mem), 0 < f → k < 1000 → XE X0 j q Y → J_Rd_readLines_106 (L_Rd_readLines_40 2 x2 f) 2 x2 (nI k) Y = some Y := by
    intro f k j q x2 Y hf hk hE
    unfold J_Rd_readLines_106
    rw [take_e hP hE, fbd_s, nI_1, rl_e hf (by omega) hE]
  have fin : ∀ (f : Nat) (k : Nat) (j q : Nat) (x2 : Int32) (Y : gb_Mem), 0 < f → k < 1000 → XE X0 j q Y → (∃ sz, Y 119 2 = nI sz ∧ sz ≤ 16) → ∃ Y2, (fbd (F_Rd_readEvent Y) fun I9 => J_Rd_readLines_106 (L_Rd_readLines_40 2 x2 f) 2 x2 (nI k) I9) = some Y2 ∧ XE X0 j q Y2 := by
    intro f k j q x2 Y hf hk hE ⟨sz, s1, s2⟩
    obtain ⟨Y2, sz2, a1, a2, a3, a4⟩ := event_e hP hE s1 s2
    refine ⟨Y2, ?_, a2⟩
    rw [a1, fbd_s, fin0 f k j q x2 Y2 hf hk a2]
  induction m with
  | zero =>
    intro k f f' i X M h hm hf hf' hG hs
    obtain ⟨f, rfl⟩ : ∃ g, f = g + 1 := ⟨f - 1, by omega⟩
    obtain ⟨f', rfl⟩ : ∃ g, f' = g + 1 := ⟨f' - 1, by omega⟩
    have hT := h.2.2.2.2.2.2.2
    have hb := hT.b
    have n0 : nI (cdA L i) = 0 ↔ cdA L i = 0 := nI_eq (b := 0) (by omega) (by decide)
    have n2 : nI (cdA L i) = 221 ↔ cdA L i = 221 := nI_eq (b := 221) (by omega) (by decide)
    have ew : F_Mo_isWord 21 M = if cdA L i = 221 then 1 else 0 := word_n (w := 21) hT (by decide)
    have hk : k = 16 := by omega
    subst hk
    simp only [L_Rd_readLines_40, RDf, L_Mo_readDinner_2, J_Rd_readLines_75]
    rw [if_neg (show ¬ 16 < nI 16 by decide), if_pos h.2.2.2.1.1, now_n hP h, fbd_s, fbd_s, ew]
    by_cases c0 : cdA L i = 0
    · rw [if_pos (n0.mpr c0), if_neg (show ¬ cdA L i = 221 by omega), if_pos rfl]
      refine Or.inl ⟨X, M, 16, by decide, rfl, ?_, h.1, h.2.2.2.2.1, h.2.2.2.1.1, h.2.2.2.1.2, hG⟩
      simp only [fbr]
      rw [if_pos ((end_y hT).mpr c0)]
    · rw [if_neg (fun z => c0 (n0.mp z))]
      by_cases c1 : cdA L i = 221
      · rw [if_pos (n2.mpr c1), if_pos c1, if_neg (by decide), if_pos (show nI 16 = 16 from rfl)]
        obtain ⟨Y, y1, y2, y3⟩ := ref_n (k := 3) hP h (by decide) (by decide)
        obtain ⟨N, e1, e2⟩ := err_n (k := 3) h.2.2.2.2
        have eo : F_Rd_openLine (nI 16) 1 X = some Y := by
          unfold F_Rd_openLine
          rw [if_neg (by decide), if_neg (by decide), show F_Rd_refuse 3 X = some Y from y1, fbd_s]
        obtain ⟨Y2, g1, g2⟩ := fin f 16 _ _ 221 Y (by omega) (by decide) y2 ⟨16, by rw [y3 119 (by decide)]; exact hs, Nat.le_refl _⟩
        rw [eo, fbd_s, if_neg (by decide), if_pos True.intro, show F_Mo_errs 3 M = some (-1, N) from e1]
        exact Or.inr ⟨Y2, N, _, _, g1, rfl, g2, e2⟩
      · rw [if_neg (fun z => c1 (n2.mp z)), if_neg c1, if_pos rfl]
        obtain ⟨Y, y1, y2, y3⟩ := ref_n (k := 1) hP h (by decide) (by decide)
        obtain ⟨N, e1, e2⟩ := err_n (k := 1) h.2.2.2.2
        have eo : F_Rd_openLine (nI 16) 0 X = some Y := by
          unfold F_Rd_openLine
          rw [if_pos rfl, show F_Rd_refuse 1 X = some Y from y1, fbd_s]
        obtain ⟨Y2, g1, g2⟩ := fin f 16 _ _ 221 Y (by omega) (by decide) y2 ⟨16, by rw [y3 119 (by decide)]; exact hs, Nat.le_refl _⟩
        rw [eo, fbd_s, if_neg (by decide), if_pos True.intro]
        simp only [fbr]
        rw [if_neg (fun z => c0 ((end_y hT).mp z)), show F_Mo_errs 1 M = some (-1, N) from e1]
        exact Or.inr ⟨Y2, N, _, _, g1, rfl, g2, e2⟩
  | succ m ih =>
    intro k f f' i X M h hm hf hf' hG hs
    obtain ⟨f, rfl⟩ : ∃ g, f = g + 1 := ⟨f - 1, by omega⟩
    obtain ⟨f', rfl⟩ : ∃ g, f' = g + 1 := ⟨f' - 1, by omega⟩
    have hT := h.2.2.2.2.2.2.2
    have hb := hT.b
    have n0 : nI (cdA L i) = 0 ↔ cdA L i = 0 := nI_eq (b := 0) (by omega) (by decide)
    have n2 : nI (cdA L i) = 221 ↔ cdA L i = 221 := nI_eq (b := 221) (by omega) (by decide)
    have ew : F_Mo_isWord 21 M = if cdA L i = 221 then 1 else 0 := word_n (w := 21) hT (by decide)
    have hk : k < 16 := by omega
    simp only [L_Rd_readLines_40, RDf, L_Mo_readDinner_2, J_Rd_readLines_75]
    rw [if_neg (show ¬ 16 < nI k from nI_nlt (a := 16) (by omega) (by decide)), if_pos h.2.2.2.1.1, now_n hP h, fbd_s, fbd_s, ew]
    by_cases c0 : cdA L i = 0
    · rw [if_pos (n0.mpr c0), if_neg (show ¬ cdA L i = 221 by omega), if_pos rfl]
      refine Or.inl ⟨X, M, k, by omega, rfl, ?_, h.1, h.2.2.2.2.1, h.2.2.2.1.1, h.2.2.2.1.2, hG⟩
      simp only [fbr]
      rw [if_pos ((end_y hT).mpr c0)]
    · rw [if_neg (fun z => c0 (n0.mp z))]
      by_cases c1 : cdA L i = 221
      · rw [if_pos (n2.mpr c1), if_pos c1, if_neg (by decide), if_neg (fun z => by have := (nI_eq (b := 16) (by omega) (by decide)).mp z; omega)]
        -- behind the line
        have mk : ∀ i5 X5 N8, PS T len L X0 M0 i5 X5 N8 → X5 119 2 = nI (k + 1) → GD X5 N8 (nI (k + 1)) → LO X0 M0 GD (J_Rd_readLines_106 (L_Rd_readLines_40 2 221 f) 2 221 (nI k) X5) (fbr (fbd (fbd (F_Mo_readMark 59 N8) fun (r15, I14) => some (r15, I14)) fun (r2, I1) => if r2 = -1 then some (.inr (-1, I1)) else L_Mo_readDinner_2 f' (nI k + 1) I1) (fun (o5, I6) => if (I6 0 16) = 0 then some (o5, I6) else fbd (F_Mo_errs 1 I6) fun (r10, I9) => some (r10, I9)) (fun (q7, I8) => some (q7, I8))) := by
          intro i5 X5 N8 g2 s5 G5
          unfold J_Rd_readLines_106
          rcases mark_n hP g2 with ⟨N9, o1, o2, o3, o4, o5, o6⟩ | ⟨Y, N9, o1, o2, o3, o4, o5⟩
          · rw [o1, o2, fbd_s, nI_1]
            simp only [fbd_s]
            rw [if_neg (by decide)]
            refine ih (k + 1) f f' _ _ _ o3 (by omega) (by omega) (by omega) ?_ (by rw [mw_ne (by decide)]; exact s5)
            unfold GD at G5 ⊢
            rw [mw_ne (by decide), mw_ne (by decide), o5 20 (by decide)]; exact G5
          · rw [o1, o2, fbd_s, nI_1, rl_e (by omega) (by omega) o3]
            exact Or.inr ⟨Y, N9, _, _, rfl, rfl, o3, o4⟩
        obtain ⟨N1, a1, a2, a3, a4⟩ := adv_n hP h (cd_pos c0)
        obtain ⟨X1, hX1⟩ : ∃ Z, Z = mw X 111 6 (nI (i + 1)) := ⟨_, rfl⟩
        rw [← hX1] at a2
        have xs1 : X1 119 2 = nI k := by rw [hX1, mw_ne (by decide)]; exact hs
        have x120 : X1 120 = X 120 := by rw [hX1, mw_ne (by decide)]
        have eo : F_Rd_openLine (nI k) 1 X = some X1 := by
          unfold F_Rd_openLine
          rw [if_neg (by decide), if_pos (show nI k < 16 from nI_lt (b := 16) hk (by decide)), fstf_d, h.2.2.1, nI_1, hX1]
        obtain ⟨nb, enb, hnb, -⟩ := gIn_n hP.2.2.2.2.2.2.2
        have em6 : ∀ N, MF M0 N → N 0 6 = nI nb := fun N hN => by rw [hN.2.1 6 (by decide) (by decide) (by decide) (by decide) (by decide) (by decide)]; exact enb
        have ex2 : ∀ Z, XF X0 Z → Z 111 2 = nI nb := fun Z hZ => by rw [hZ.2.2.2.1 2 (by decide) (by decide) (by decide), hP.2.2.2.2.2.2.1]; exact enb
        have e64 : (64 : Int32) + 4 * nI k = nI (64 + 4 * k) := by rw [show (4 : Int32) * nI k = nI (4 * k) from pk_mul 4 k]; exact nI_add 64 (4 * k)
        rw [eo, fbd_s, if_neg (by decide), if_pos True.intro, ev_T, e64]
        unfold F_Mo_readDeed F_Mo_readTold
        rw [ew, if_pos c1, if_neg (by decide), a1, fbd_s]
        rcases numb_n hP a2 0 999 with ⟨b, N2, b1, b2, b3, b4, b5, b6, b7, b8, b9⟩ | ⟨r, Y, N2, j, b2, b3, b4, b5, b6⟩
        · obtain ⟨X2, hX2⟩ : ∃ Z, Z = mw X1 111 6 (nI (i + 1 + 1)) := ⟨_, rfl⟩
          rw [← hX2] at b2 b6
          have xs2 : X2 119 2 = nI k := by rw [hX2, mw_ne (by decide)]; exact xs1
          have x1202 : X2 120 = X 120 := by rw [hX2, mw_ne (by decide)]; exact x120
          rw [b2, b3]
          simp only [fbd_s]
          rw [fsto_n (by omega) (by decide), flod_n (by omega) (by decide), show mw N2 20 (64 + 4 * k) (nI b) 20 (64 + 4 * k) = nI b by rw [mw_eq, pk_us], if_neg (nI_nm1 (by omega)), flt_d]
          have P2 := b6.w20 (j := 64 + 4 * k) (v := nI b) (by omega)
          obtain ⟨N3, hN3⟩ : ∃ Z, Z = mw N2 20 (64 + 4 * k) (nI b) := ⟨_, rfl⟩
          rw [← hN3] at P2 ⊢
          have e20 : N3 20 = upd (M 20) (64 + 4 * k) (nI b) := by rw [hN3, mw_eq, b8 20 (by decide), a3 20 (by decide)]
          clear hN3
          have hT2 := P2.2.2.2.2.2.2.2
          have hb2 := hT2.b
          rw [kd_n hT2]
          unfold evT
          rw [now_n hP P2, fbd_s]
          have n212 : nI (cdA L (i + 1 + 1)) = 212 ↔ cdA L (i + 1 + 1) = 212 := nI_eq (b := 212) (by omega) (by decide)
          have w25 : F_Gb_within (nI (cdA L (i + 1 + 1))) 222 225 X2 = if 222 ≤ cdA L (i + 1 + 1) ∧ cdA L (i + 1 + 1) ≤ 225 then 1 else 0 := wi_if (a := 222) (b := 225) (by omega) (by decide) (by decide)
          rw [w25]
          generalize hcc : cdA L (i + 1 + 1) = cc at *
          -- the deed
          have deed : ∀ y, (cc = 212 ∧ y = 0) ∨ ((222 ≤ cc ∧ cc ≤ 225) ∧ y = cc - 221) → LO X0 M0 GD (fbd (J_Rd_readEvent_40 (nI b) (nI cc) X2) fun I8 => J_Rd_readLines_106 (L_Rd_readLines_40 2 221 f) 2 221 (nI k) I8) (fbr (fbd (if nI y = -1 then fbd (F_Mo_errs 1 N3) fun x => some (x.fst, x.snd) else fbd (F_Mo_reads N3) fun I6 => fsto I6 20 128 (nI (64 + 4 * k) + 1) (nI y) fun I7 => fbd (F_Mo_readNumber 0 (F_Mo_mostFor (nI y) I7) I7) fun x => fsto x.snd 20 128 (nI (64 + 4 * k) + 2) x.fst fun I10 => flod I10 20 128 (nI (64 + 4 * k) + 2) fun v11 => if v11 = -1 then some (-1, I10) else if nI y = 3 then fbd (F_Mo_readNumber 0 99 I10) fun x => J_Mo_readDeed_112 (nI (64 + 4 * k)) x.fst (nI (64 + 4 * k) + 3) x.snd else J_Mo_readDeed_112 (nI (64 + 4 * k)) 0 (nI (64 + 4 * k) + 3) I10) fun x => if x.fst = -1 then some (Sum.inr (-1, x.snd)) else L_Mo_readDinner_2 f' (nI k + 1) x.snd) (fun x => if x.snd 0 16 = 0 then some (x.fst, x.snd) else fbd (F_Mo_errs 1 x.snd) fun x => some (x.fst, x.snd)) fun x => some (x.fst, x.snd)) := by
            intro y hy
            have hy4 : y ≤ 4 := by omega
            have hcl : ¬ cdA L (i + 1 + 1) = 0 := by omega
            obtain ⟨N4, d1, d2, d3, d4⟩ := adv_n hP P2 (cd_pos hcl)
            obtain ⟨X3, hX3⟩ : ∃ Z, Z = mw X2 111 6 (nI (i + 1 + 1 + 1)) := ⟨_, rfl⟩
            have tk : F_Rd_take (nI cc) X2 = some X3 := by rw [hX3]; exact take_t hP P2 hcc
            rw [← hX3] at d2
            have xs3 : X3 119 2 = nI k := by rw [hX3, mw_ne (by decide)]; exact xs2
            have x1203 : X3 120 = X 120 := by rw [hX3, mw_ne (by decide)]; exact x1202
            rw [if_neg (nI_nm1 (by omega)), d1, fbd_s, nI_1, show nI (64 + 4 * k) + 2 = nI (64 + 4 * k + 2) from nI_add _ 2, show nI (64 + 4 * k) + 3 = nI (64 + 4 * k + 3) from nI_add _ 3, fsto_n (by omega) (by decide)]
            have P3 := d2.w20 (j := 64 + 4 * k + 1) (v := nI y) (by omega)
            obtain ⟨N5, hN5⟩ : ∃ Z, Z = mw N4 20 (64 + 4 * k + 1) (nI y) := ⟨_, rfl⟩
            rw [← hN5] at P3 ⊢
            have e205 : N5 20 = upd (upd (M 20) (64 + 4 * k) (nI b)) (64 + 4 * k + 1) (nI y) := by rw [hN5, mw_eq, d3 20 (by decide), e20]
            clear hN5
            -- the bound
            obtain ⟨hi, hhi⟩ : ∃ hi : Int32, hi = F_Mo_mostFor (nI y) N5 := ⟨_, rfl⟩
            have hiX : J_Rd_readEvent_40 (nI b) (nI cc) X2 = J_Rd_readEvent_82 (nI b) (nI cc) hi X3 := by
              unfold J_Rd_readEvent_40 J_Rd_readEvent_71
              rw [tk, fbd_s, hhi, ex2 X3 d2.1]
              unfold F_Mo_mostFor J_Mo_mostFor_9
              rw [em6 N5 P3.2.2.2.2.1]
              rcases hy with ⟨q1, q2⟩ | ⟨q1, q2⟩
              · subst q1 q2; rfl
              · have hc : cc = 222 ∨ cc = 223 ∨ cc = 224 ∨ cc = 225 := by omega
                rcases hc with rfl | rfl | rfl | rfl
                · subst q2; rfl
                · subst q2; rfl
                · subst q2; rfl
                · subst q2; rfl
            have hi7 : ∀ w, w < 10000 → gIn (nI w) (0 : Int32).toInt hi.toInt → (nI cc = 223 → gIn (nI w) 0 11) ∧ (nI cc = 224 ∨ nI cc = 225 → gIn (nI w) 0 7) := by
              intro w hw hg
              rw [hhi] at hg
              unfold F_Mo_mostFor J_Mo_mostFor_9 at hg
              rw [em6 N5 P3.2.2.2.2.1] at hg
              have z : ∀ q : Nat, q < 300 → nI cc = nI q → cc = q := fun q hq h1 => (nI_eq (by omega) (by omega)).mp h1
              refine ⟨fun h1 => ?_, fun h1 => ?_⟩
              · have := z 223 (by decide) h1
                have hy2 : y = 2 := by omega
                subst hy2
                exact hg
              · have hy2 : y = 3 ∨ y = 4 := by
                  rcases h1 with h1 | h1
                  · have := z 224 (by decide) h1; omega
                  · have := z 225 (by decide) h1; omega
                have hg2 : gIn (nI w) (0 : Int32).toInt (nI nb - 1).toInt := by
                  rcases hy2 with rfl | rfl
                  · exact hg
                  · exact hg
                have := boat_b (by omega) rfl hw hg2
                exact (gIn_nI (by omega)).mpr ⟨by omega, by omega⟩
            rw [← hhi, hiX]
            have d224 : nI cc = 224 ↔ cc = 224 := nI_eq (b := 224) (by omega) (by decide)
            have y3 : nI y = 3 ↔ cc = 224 := by
              have h3 : nI y = 3 ↔ y = 3 := nI_eq (b := 3) (by omega) (by decide)
              rw [h3]; omega
            have e3 : nI (64 + 4 * k) + 3 = nI (64 + 4 * k + 3) := nI_add _ 3
            have h2c : nI cc = 212 ∨ gIn (nI cc) 222 225 := by
              rcases hy with ⟨q1, -⟩ | ⟨q1, -⟩
              · left; rw [q1]; rfl
              · right; exact (gIn_nI (by omega)).mpr ⟨by omega, by omega⟩
            have hgd : gDeed (nI cc) = nI y := by
              rcases hy with ⟨q1, q2⟩ | ⟨q1, q2⟩
              · subst q1 q2; rfl
              · have hc : cc = 222 ∨ cc = 223 ∨ cc = 224 ∨ cc = 225 := by omega
                rcases hc with rfl | rfl | rfl | rfl
                · subst q2; rfl
                · subst q2; rfl
                · subst q2; rfl
                · subst q2; rfl
            unfold J_Rd_readEvent_82 J_Rd_readEvent_117 J_Mo_readDeed_112
            rcases numb_n hP P3 0 hi with ⟨w, N6, w1, w2, w3, w4, w5, w6, w7, w8, w9⟩ | ⟨r, Y, N6, j, w2, w3, w4, w5, w6⟩
            · obtain ⟨X4, hX4⟩ : ∃ Z, Z = mw X3 111 6 (nI (i + 1 + 1 + 1 + 1)) := ⟨_, rfl⟩
              rw [← hX4] at w2 w6
              have xs4 : X4 119 2 = nI k := by rw [hX4, mw_ne (by decide)]; exact xs3
              have x1204 : X4 120 = X 120 := by rw [hX4, mw_ne (by decide)]; exact x1203
              rw [w2, w3]
              simp only [fbd_s]
              rw [fsto_n (by omega) (by decide), flod_n (by omega) (by decide), show mw N6 20 (64 + 4 * k + 2) (nI w) 20 (64 + 4 * k + 2) = nI w by rw [mw_eq, pk_us], if_neg (nI_nm1 (by omega))]
              have P4 := w6.w20 (j := 64 + 4 * k + 2) (v := nI w) (by omega)
              obtain ⟨N7, hN7⟩ : ∃ Z, Z = mw N6 20 (64 + 4 * k + 2) (nI w) := ⟨_, rfl⟩
              rw [← hN7] at P4 ⊢
              have e207 : N7 20 = upd (upd (upd (M 20) (64 + 4 * k) (nI b)) (64 + 4 * k + 1) (nI y)) (64 + 4 * k + 2) (nI w) := by rw [hN7, mw_eq, w8 20 (by decide), e205]
              clear hN7
              obtain ⟨hw1, hw2⟩ := hi7 w w1 w4
              have endD : ∀ i9 X9 N9 z, PS T len L X0 M0 i9 X9 N9 → X9 119 2 = nI k → X9 120 = X 120 → N9 20 = N7 20 → (nI cc = 224 → gIn z 0 99) → LO X0 M0 GD (fbd (fbd (F_Ro_add 119 64 (nI b) (nI cc) (nI w) z X9) fun (r8, I7) => some I7) fun I8 => J_Rd_readLines_106 (L_Rd_readLines_40 2 221 f) 2 221 (nI k) I8) (fbr (fbd (fbd (F_Mo_readMark 59 (mw N9 20 (64 + 4 * k + 3) z)) fun (r15, I14) => some (r15, I14)) fun (r2, I1) => if r2 = -1 then some (.inr (-1, I1)) else L_Mo_readDinner_2 f' (nI k + 1) I1) (fun (o5, I6) => if (I6 0 16) = 0 then some (o5, I6) else fbd (F_Mo_errs 1 I6) fun (r10, I9) => some (r10, I9)) (fun (q7, I8) => some (q7, I8))) := by
                intro i9 X9 N9 z P9 s9 x9 n9 hz
                obtain ⟨g1, g2⟩ := radd_n hP P9 s9 hk (nI b) (nI cc) (nI w) z
                rw [g1]
                simp only [fbd_s]
                have P10 := g2.w20 (j := 64 + 4 * k + 3) (v := z) (by omega)
                refine mk i9 _ _ P10 (by rw [mw_eq, pk_us]) ?_
                unfold GD at hG ⊢
                rw [hs] at hG
                have g := hG.add hk (x1 := nI b) (x2 := nI cc) (x3 := nI w) (x4 := z) h2c hw1 hw2 hz
                rw [mw_eq, pk_us, mw_ne (show 120 ≠ 119 by decide), show (120 : Nat) = 119 + 1 from rfl, mset_eq, show X9 (119 + 1) = X 120 from x9]
                refine g.eqs (fun _ _ _ _ _ => rfl) (fun j hj => ?_)
                rw [mw_eq, n9, e207, hgd]
                unfold up4
                simp only [upd_ap]
                by_cases z3 : j = 4 * k + 3
                · rw [if_pos (by omega), if_pos z3]
                · rw [if_neg (by omega), if_neg z3]
                  by_cases z2 : j = 4 * k + 2
                  · rw [if_pos (by omega), if_pos z2]
                  · rw [if_neg (by omega), if_neg z2]
                    by_cases z1 : j = 4 * k + 1
                    · rw [if_pos (by omega), if_pos z1]
                    · rw [if_neg (by omega), if_neg z1]
                      by_cases z0 : j = 4 * k
                      · rw [if_pos (by omega), if_pos z0]
                      · rw [if_neg (by omega), if_neg z0]
              by_cases c224 : cc = 224
              · rw [if_pos (d224.mpr c224), if_pos (y3.mpr c224)]
                rcases numb_n hP P4 0 99 with ⟨u, N8, u1, u2, u3, u4, u5, u6, u7, u8, u9⟩ | ⟨r, Y, N8, j, u2, u3, u4, u5, u6⟩
                · rw [u2, u3]
                  simp only [fbd_s]
                  rw [fsto_n (by omega) (by decide), e3, flod_n (by omega) (by decide), show mw N8 20 (64 + 4 * k + 3) (nI u) 20 (64 + 4 * k + 3) = nI u by rw [mw_eq, pk_us], if_neg (nI_nm1 (by omega))]
                  exact endD _ _ _ (nI u) u6 (by rw [mw_ne (by decide)]; exact xs4) (by rw [mw_ne (by decide)]; exact x1204) (u8 20 (by decide)) (fun _ => u4)
                · obtain ⟨r9, Y9, s9, g1, g2, g3, g4⟩ := radd_e hP u4 (by rw [u6 119 (by decide)]; exact xs4) (by omega) (nI b) (nI cc) (nI w) r
                  rw [u2, u3]
                  simp only [fbd_s]
                  rw [g1]
                  simp only [fbd_s]
                  rw [fin0 f k _ _ 221 Y9 (by omega) (by omega) g2, fsto_n (by omega) (by decide), e3, flod_n (by omega) (by decide), show mw N8 20 (64 + 4 * k + 3) (-1) 20 (64 + 4 * k + 3) = -1 by rw [mw_eq, pk_us], if_pos rfl]
                  exact Or.inr ⟨Y9, _, _, _, rfl, rfl, g2, u5.w20 (by omega)⟩
              · rw [if_neg (fun z => c224 (d224.mp z)), if_neg (fun z => c224 (y3.mp z)), fsto_n (by omega) (by decide), e3, flod_n (by omega) (by decide), show mw N7 20 (64 + 4 * k + 3) 0 20 (64 + 4 * k + 3) = 0 by rw [mw_eq, pk_us], if_neg (by decide)]
                exact endD _ _ _ 0 P4 xs4 x1204 rfl (fun z => absurd (d224.mp z) c224)
            · obtain ⟨Y9, s9, g1, g2, g3, g4⟩ : ∃ Y9 s9, (fbd (some (r, Y)) fun (r6, I5) => if nI cc = 224 then fbd (F_Rd_takeNumber 0 99 I5) fun (r10, I9) => fbd (F_Ro_add 119 64 (nI b) (nI cc) r6 r10 I9) fun (r8, I7) => some I7 else fbd (F_Ro_add 119 64 (nI b) (nI cc) r6 0 I5) fun (r8, I7) => some I7) = some Y9 ∧ XE X0 j (plA L len (i + 1 + 1 + 1)) Y9 ∧ Y9 119 2 = nI s9 ∧ s9 ≤ 16 := by
                simp only [fbd_s]
                by_cases c224 : nI cc = 224
                · rw [if_pos c224]
                  obtain ⟨r8, t8⟩ := tnum_e hP w4 0 99
                  obtain ⟨r9, Y9, s9, g1, g2, g3, g4⟩ := radd_e hP w4 (by rw [w6 119 (by decide)]; exact xs3) (by omega) (nI b) (nI cc) r r8
                  rw [t8]
                  simp only [fbd_s]
                  rw [g1]
                  exact ⟨Y9, s9, rfl, g2, g3, g4⟩
                · rw [if_neg c224]
                  obtain ⟨r9, Y9, s9, g1, g2, g3, g4⟩ := radd_e hP w4 (by rw [w6 119 (by decide)]; exact xs3) (by omega) (nI b) (nI cc) r 0
                  rw [g1]
                  exact ⟨Y9, s9, rfl, g2, g3, g4⟩
              rw [w2, w3, g1, fbd_s, fin0 f k _ _ 221 Y9 (by omega) (by omega) g2]
              simp only [fbd_s]
              rw [fsto_n (by omega) (by decide), flod_n (by omega) (by decide), show mw N6 20 (64 + 4 * k + 2) (-1) 20 (64 + 4 * k + 2) = -1 by rw [mw_eq, pk_us], if_pos rfl]
              exact Or.inr ⟨Y9, _, _, _, rfl, rfl, g2, w5.w20 (by omega)⟩
          by_cases k1 : cc = 212
          · rw [if_pos (n212.mpr k1), if_pos k1]
            exact deed 0 (Or.inl ⟨k1, rfl⟩)
          · rw [if_neg (fun z => k1 (n212.mp z)), if_neg k1]
            by_cases k2 : 222 ≤ cc ∧ cc ≤ 225
            · rw [if_pos k2, if_neg (by decide), if_pos k2]
              exact deed (cc - 221) (Or.inr ⟨k2, rfl⟩)
            · rw [if_neg k2, if_pos rfl, if_neg k2, if_pos rfl]
              obtain ⟨Y, y1, y2, y3⟩ := ref_n (k := 1) hP P2 (by decide) (by decide)
              obtain ⟨N9, e1, e2⟩ := err_n (k := 1) P2.2.2.2.2
              rw [show F_Rd_refuse 1 X2 = some Y from y1, fbd_s, fbd_s, fin0 f k _ _ 221 Y (by omega) (by omega) y2, show F_Mo_errs 1 N3 = some (-1, N9) from e1]
              exact Or.inr ⟨Y, N9, _, _, rfl, rfl, y2, e2⟩
        · obtain ⟨Y9, s9, g1, g2, g3, g4⟩ := evT_e hP b4 (by rw [b6 119 (by decide)]; exact xs1) (by omega) r
          rw [b2, b3]
          simp only [fbd_s]
          rw [g1, fbd_s, fin0 f k _ _ 221 Y9 (by omega) (by omega) g2, fsto_n (by omega) (by decide), flod_n (by omega) (by decide), show mw N2 20 (64 + 4 * k) (-1) 20 (64 + 4 * k) = -1 by rw [mw_eq, pk_us], if_pos rfl]
          exact Or.inr ⟨Y9, _, _, _, rfl, rfl, g2, b5.w20 (by omega)⟩
      · rw [if_neg (fun z => c1 (n2.mp z)), if_neg c1, if_pos rfl]
        obtain ⟨Y, y1, y2, y3⟩ := ref_n (k := 1) hP h (by decide) (by decide)
        obtain ⟨N, e1, e2⟩ := err_n (k := 1) h.2.2.2.2
        have eo : F_Rd_openLine (nI k) 0 X = some Y := by
          unfold F_Rd_openLine
          rw [if_pos rfl, show F_Rd_refuse 1 X = some Y from y1, fbd_s]
        obtain ⟨Y2, g1, g2⟩ := fin f k _ _ 221 Y (by omega) (by omega) y2 ⟨k, by rw [y3 119 (by decide)]; exact hs, by omega⟩
        rw [eo, fbd_s, if_neg (by decide), if_pos True.intro]
        simp only [fbr]
        rw [if_neg (fun z => c0 ((end_y hT).mp z)), show F_Mo_errs 1 M = some (-1, N) from e1]
        exact Or.inr ⟨Y2, N, _, _, g1, rfl, g2, e2⟩
end DINNER
