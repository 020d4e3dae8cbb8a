/-! REACH. -/
section REACH
variable {T : Nat → Nat} {len : Nat} {L : List (Nat × Nat)} {X0 M0 X M Y N : gb_Mem} {i k p sz : Nat}
theorem MF.w21 {j : Nat} {v : Int32} (h : MF M N) (hj : 12 ≤ j) : MF M (mw N 21 j v) := by
  obtain ⟨h1, h2, h3, h4, h5, h6, h7⟩ := h
  exact ⟨fun c c0 c1 => by rw [mw_ne (by omega)]; exact h1 c c0 c1, fun k k1 k2 k3 k4 k5 k6 => by rw [mw_ne (by decide)]; exact h2 k k1 k2 k3 k4 k5 k6, fun c k a b d => by rw [mw_ne (by omega)]; exact h3 c k a b d, fun c k a b d => by rw [mw_ne (by omega)]; exact h4 c k a b d, fun k a => by rw [mw_ne (by decide)]; exact h5 k a, fun k a => by rw [mw_ne (by decide)]; exact h6 k a, fun k a => by rw [mw_eq, pk_un (by omega)]; exact h7 k a⟩
theorem PS.w21 {j : Nat} {v : Int32} (h : PS T len L X0 M0 i X M) (hj : 12 ≤ j) : PS T len L X0 M0 i X (mw M 21 j v) := by
  obtain ⟨a1, a2, a3, a4, a5, a6, a7, a8⟩ := h
  exact ⟨a1, a2, a3, a4, a5.w21 hj, by rw [mw_ne (by decide)]; exact a6, by rw [mw_ne (by decide)]; exact a7, by rw [mw_ne (by decide)]; exact a8⟩
theorem j54_e (hP : PC T len L X0 M0) (h : XE X0 k p X) (hs : X 119 2 = nI sz) (hz : sz ≤ 16) (x1 : Int32) : ∃ Y s2, J_Rd_readReach_54 x1 X = some Y ∧ XE X0 k p Y ∧ Y 119 2 = nI s2 ∧ s2 ≤ 16 := by
  obtain ⟨r1, e1⟩ := tnum_e hP h 0 11
  obtain ⟨r, Y, s2, a1, a2, a3, a4⟩ := radd_e hP h hs hz x1 r1 0 0
  unfold J_Rd_readReach_54
  rw [e1]
  simp only [fbd_s]
  rw [a1]; exact ⟨Y, s2, rfl, a2, a3, a4⟩
def rcT (r2 : Int32) (I1 : gb_Mem) : Option gb_Mem := fbd (F_Rd_take 226 I1) fun I3 => if (I3 111 7) = 0 then fbd (F_Rd_now I3) fun r8 => if r8 < 1000 then J_Rd_readReach_54 r2 I3 else fbd (F_Rd_now I3) fun r9 => if 1 < (ab ((r9 - 1000) - r2)) then J_Rd_readReach_54 r2 I3 else fbd (F_Rd_refuse 2 I3) fun I10 => J_Rd_readReach_54 r2 I10 else J_Rd_readReach_54 r2 I3
theorem rc_T (X : gb_Mem) : F_Rd_readReach X = fbd (F_Rd_takeNumber 0 11 X) fun (r2, I1) => rcT r2 I1 := rfl
theorem rcT_e (hP : PC T len L X0 M0) (h : XE X0 k p X) (hs : X 119 2 = nI sz) (hz : sz ≤ 16) (r2 : Int32) : ∃ Y s2, rcT r2 X = some Y ∧ XE X0 k p Y ∧ Y 119 2 = nI s2 ∧ s2 ≤ 16 := by
  unfold rcT
  rw [take_e hP h, fbd_s, if_neg h.f]
  exact j54_e hP h hs hz r2
theorem reach_e (hP : PC T len L X0 M0) (h : XE X0 k p X) (hs : X 119 2 = nI sz) (hz : sz ≤ 16) : ∃ Y s2, F_Rd_readReach X = some Y ∧ XE X0 k p Y ∧ Y 119 2 = nI s2 ∧ s2 ≤ 16 := by
  obtain ⟨r1, e1⟩ := tnum_e hP h 0 11
  rw [rc_T, e1]
  exact rcT_e hP h hs hz r1
theorem ab_n {v a : Nat} (hv : v < 2 ^ 30) (ha : a < 2 ^ 30) : 1 < ab (nI v - nI a) ↔ v + 1 < a ∨ a + 1 < v := by
  unfold ab
  have e := pk_sub_toInt hv ha
  by_cases c : a ≤ v
  · rw [pk_sub c, if_pos (nI_pos' (by omega)), show (1 : Int32) = nI 1 from rfl, nI_ltI (by decide) (by omega)]; omega
  · have e2 : (0 : Int32) - (nI v - nI a) = nI (a - v) := by
      have h1 : nI a - nI v = nI (a - v) := pk_sub (by omega)
      rw [← h1, Int32.zero_sub, Int32.neg_sub]
    rw [if_neg, e2, show (1 : Int32) = nI 1 from rfl, nI_ltI (by decide) (by omega)]
    · omega
    · intro z
      have z2 := pk_sneg (a := v) (b := a) ha (by omega)
      exact Int32.lt_irrefl (Int32.lt_of_lt_of_le z2 z)
theorem wi_near {v a : Nat} {I : gb_Mem} (hv : v < 2 ^ 29) (ha : a < 2 ^ 29) : F_Gb_within (nI v) (nI a - 1) (nI a + 1) I = 0 ↔ v + 1 < a ∨ a + 1 < v := by
  rw [within_0, nI_1]
  have h1 : nI a - 1 ≤ nI v ↔ a ≤ v + 1 := by
    rw [Int32.le_iff_toInt_le, show (nI a - 1).toInt = (a : Int) - 1 from pk_sub_toInt (b := 1) (by omega) (by decide), nI_toInt (by omega)]; omega
  have h2 : nI v ≤ nI (a + 1) ↔ v ≤ a + 1 := nI_leI (by omega) (by omega)
  rw [h1, h2]; omega
theorem GRea.add {c d : Nat → Int32} {a b : Nat} (h : GRea (nI k) c (nI k) d) (hk : k < 16) (ha : a < 12) (hb : b < 12) (hab : a ≠ b) : GRea (nI (k + 1)) (up4 c k (nI a) (nI b) 0 0) (nI (k + 1)) (upd (upd d a (d a ||| (1 <<< (nI b &&& 31)))) b (upd d a (d a ||| (1 <<< (nI b &&& 31))) b ||| (1 <<< (nI a &&& 31)))) := by
  obtain ⟨-, k2, h2, e2, h3, h4⟩ := h
  have : k = k2 := (nI_eq (by omega) (by omega)).mp e2
  subst this
  refine ⟨rfl, k + 1, by omega, rfl, fun i hi => ?_, fun a9 ha9 => ?_⟩
  · by_cases hik : i = k
    · subst hik
      rw [up4_0, up4_1]
      exact ⟨(gIn_nI (by omega)).mpr ⟨by omega, by omega⟩, (gIn_nI (by omega)).mpr ⟨by omega, by omega⟩⟩
    · rw [up4_lt (by omega), up4_lt (by omega)]
      exact h3 i (by omega)
  · have key : ∀ j, j < 32 → tb (upd (upd d a (d a ||| (1 <<< (nI b &&& 31)))) b (upd d a (d a ||| (1 <<< (nI b &&& 31))) b ||| (1 <<< (nI a &&& 31))) a9) j = (tb (d a9) j || decide ((a9 = a ∧ j = b) ∨ (a9 = b ∧ j = a))) := by
      intro j hj
      rw [upd_ap]
      by_cases c : a9 = b
      · subst c
        rw [if_pos rfl, tb_or, tb_one j (by omega), pk_un (Ne.symm hab)]
        congr 1
        apply decide_eq_decide.mpr
        omega
      · rw [if_neg c, upd_ap]
        by_cases c2 : a9 = a
        · subst c2
          rw [if_pos rfl, tb_or, tb_one j (by omega)]
          congr 1
          apply decide_eq_decide.mpr
          omega
        · rw [if_neg c2, decide_eq_false (by omega), Bool.or_false]
    have hlow : ∀ j, 12 ≤ j → tb (d a9) j = false := fun j hj => tb_lt (n := 12) (h4 a9 ha9).1 hj
    refine ⟨?_, fun j hj => ?_⟩
    · refine Nat.lt_pow_two_of_testBit (n := 12) _ (fun j hj => ?_)
      by_cases c : j < 32
      · have z := key j c
        rw [hlow j hj, decide_eq_false (by omega)] at z
        exact z
      · exact tb_ge (by omega)
    · have z := key j (by omega)
      have z0 := (h4 a9 ha9).2 j hj
      have z1 : tb (d a9) j = (gPair c (nI a9) (nI j) k || gPair c (nI j) (nI a9) k) := z0
      rw [gPair_up, gPair_up, nI_eqb (by omega) (by omega), nI_eqb (by omega) (by omega), nI_eqb (by omega) (by omega), nI_eqb (by omega) (by omega)]
      refine z.trans ?_
      rw [z1]
      cases gPair c (nI a9) (nI j) k <;> cases gPair c (nI j) (nI a9) k <;> (apply Bool.eq_iff_iff.mpr; simp only [Bool.or_eq_true, Bool.and_eq_true, Bool.not_eq_true', Bool.not_eq_false', decide_eq_true_eq, decide_eq_false_iff_not, Bool.false_eq_true, Bool.true_eq_false, or_false, false_or, and_true, true_and, and_false, false_and, or_true, true_or, reduceCtorEq, ne_eq, not_false_eq_true, not_true_eq_false, eq_self, true_iff, iff_true, false_iff, iff_false, Bool.or_self, Bool.and_self, Bool.or_false, Bool.false_or, Bool.true_or, Bool.or_true] <;> omega)
def RRf (f : Nat) (x : Int32) (M : gb_Mem) : Option (Int32 × gb_Mem) := fbr (L_Mo_readReaches_26 f x M) (fun (o7, I8) => if (I8 0 16) = 0 then some (o7, I8) else fbd (F_Mo_errs 1 I8) fun (r12, I11) => some (r12, I11)) (fun (q9, I10) => some (q9, I10))
def GR (Y N : gb_Mem) (k : Int32) : Prop := GRea (Y 119 2) (Y 120) k (fun j => N 21 (12 + j))
theorem rea_l2 (hP : PC T len L X0 M0) : ∀ m k f f' i X M, PS T len L X0 M0 i X M → k + m = 16 → m + 1 < f → m + 1 < f' → GR X M (nI k) → X 119 2 = nI k → LO X0 M0 GR (L_Rd_readLines_40 3 210 f (nI k) X) (RRf f' (nI k) M) := by
  intro m
  have fin0 : ∀ (f : Nat) (k : Nat) (j q : Nat) (x2 : Int32) (Y : gb_Mem), 0 < f → k < 1000 → XE X0 j q Y → J_Rd_readLines_106 (L_Rd_readLines_40 3 x2 f) 3 x2 (nI k) Y = some Y := by
    intro f k j q x2 Y hf hk hE
    unfold J_Rd_readLines_106
    rw [take_e hP hE, fbd_s, nI_1, rl_e hf (by omega) hE]
  have fin : ∀ (f : Nat) (k : Nat) (j q : Nat) (x2 : Int32) (Y : gb_Mem), 0 < f → k < 1000 → XE X0 j q Y → (∃ sz, Y 119 2 = nI sz ∧ sz ≤ 16) → ∃ Y2, (fbd (F_Rd_readReach Y) fun I9 => J_Rd_readLines_106 (L_Rd_readLines_40 3 x2 f) 3 x2 (nI k) I9) = some Y2 ∧ XE X0 j q Y2 := by
    intro f k j q x2 Y hf hk hE ⟨sz, s1, s2⟩
    obtain ⟨Y2, sz2, a1, a2, a3, a4⟩ := reach_e hP hE s1 s2
    refine ⟨Y2, ?_, a2⟩
    rw [a1, fbd_s, fin0 f k j q x2 Y2 hf hk a2]
  induction m with
  | zero =>
    intro k f f' i X M h hm hf hf' hG hs
    obtain ⟨f, rfl⟩ : ∃ g, f = g + 1 := ⟨f - 1, by omega⟩
    obtain ⟨f', rfl⟩ : ∃ g, f' = g + 1 := ⟨f' - 1, by omega⟩
    have hT := h.2.2.2.2.2.2.2
    have hb := hT.b
    have n0 : nI (cdA L i) = 0 ↔ cdA L i = 0 := nI_eq (b := 0) (by omega) (by decide)
    have n2 : nI (cdA L i) = 210 ↔ cdA L i = 210 := nI_eq (b := 210) (by omega) (by decide)
    have ew : F_Mo_isWord 14 M = if cdA L i = 210 then 1 else 0 := word_n (w := 14) hT (by decide)
    have hk : k = 16 := by omega
    subst hk
    simp only [L_Rd_readLines_40, RRf, L_Mo_readReaches_26, J_Rd_readLines_75]
    rw [if_neg (show ¬ 16 < nI 16 by decide), if_pos h.2.2.2.1.1, now_n hP h, fbd_s, fbd_s, ew]
    by_cases c0 : cdA L i = 0
    · rw [if_pos (n0.mpr c0), if_neg (show ¬ cdA L i = 210 by omega), if_pos rfl]
      refine Or.inl ⟨X, M, 16, by decide, rfl, ?_, h.1, h.2.2.2.2.1, h.2.2.2.1.1, h.2.2.2.1.2, hG⟩
      simp only [fbr]
      rw [if_pos ((end_y hT).mpr c0)]
    · rw [if_neg (fun z => c0 (n0.mp z))]
      by_cases c1 : cdA L i = 210
      · rw [if_pos (n2.mpr c1), if_pos c1, if_neg (by decide), if_pos (show nI 16 = 16 from rfl)]
        obtain ⟨Y, y1, y2, y3⟩ := ref_n (k := 3) hP h (by decide) (by decide)
        obtain ⟨N, e1, e2⟩ := err_n (k := 3) h.2.2.2.2
        have eo : F_Rd_openLine (nI 16) 1 X = some Y := by
          unfold F_Rd_openLine
          rw [if_neg (by decide), if_neg (by decide), show F_Rd_refuse 3 X = some Y from y1, fbd_s]
        obtain ⟨Y2, g1, g2⟩ := fin f 16 _ _ 210 Y (by omega) (by decide) y2 ⟨16, by rw [y3 119 (by decide)]; exact hs, Nat.le_refl _⟩
        rw [eo, fbd_s, if_neg (by decide), if_neg (by decide), show F_Mo_errs 3 M = some (-1, N) from e1]
        exact Or.inr ⟨Y2, N, _, _, g1, rfl, g2, e2⟩
      · rw [if_neg (fun z => c1 (n2.mp z)), if_neg c1, if_pos rfl]
        obtain ⟨Y, y1, y2, y3⟩ := ref_n (k := 1) hP h (by decide) (by decide)
        obtain ⟨N, e1, e2⟩ := err_n (k := 1) h.2.2.2.2
        have eo : F_Rd_openLine (nI 16) 0 X = some Y := by
          unfold F_Rd_openLine
          rw [if_pos rfl, show F_Rd_refuse 1 X = some Y from y1, fbd_s]
        obtain ⟨Y2, g1, g2⟩ := fin f 16 _ _ 210 Y (by omega) (by decide) y2 ⟨16, by rw [y3 119 (by decide)]; exact hs, Nat.le_refl _⟩
        rw [eo, fbd_s, if_neg (by decide), if_neg (by decide)]
        simp only [fbr]
        rw [if_neg (fun z => c0 ((end_y hT).mp z)), show F_Mo_errs 1 M = some (-1, N) from e1]
        exact Or.inr ⟨Y2, N, _, _, g1, rfl, g2, e2⟩
  | succ m ih =>
    intro k f f' i X M h hm hf hf' hG hs
    obtain ⟨f, rfl⟩ : ∃ g, f = g + 1 := ⟨f - 1, by omega⟩
    obtain ⟨f', rfl⟩ : ∃ g, f' = g + 1 := ⟨f' - 1, by omega⟩
    have hT := h.2.2.2.2.2.2.2
    have hb := hT.b
    have n0 : nI (cdA L i) = 0 ↔ cdA L i = 0 := nI_eq (b := 0) (by omega) (by decide)
    have n2 : nI (cdA L i) = 210 ↔ cdA L i = 210 := nI_eq (b := 210) (by omega) (by decide)
    have ew : F_Mo_isWord 14 M = if cdA L i = 210 then 1 else 0 := word_n (w := 14) hT (by decide)
    have hk : k < 16 := by omega
    simp only [L_Rd_readLines_40, RRf, L_Mo_readReaches_26, J_Rd_readLines_75]
    rw [if_neg (show ¬ 16 < nI k from nI_nlt (a := 16) (by omega) (by decide)), if_pos h.2.2.2.1.1, now_n hP h, fbd_s, fbd_s, ew]
    by_cases c0 : cdA L i = 0
    · rw [if_pos (n0.mpr c0), if_neg (show ¬ cdA L i = 210 by omega), if_pos rfl]
      refine Or.inl ⟨X, M, k, by omega, rfl, ?_, h.1, h.2.2.2.2.1, h.2.2.2.1.1, h.2.2.2.1.2, hG⟩
      simp only [fbr]
      rw [if_pos ((end_y hT).mpr c0)]
    · rw [if_neg (fun z => c0 (n0.mp z))]
      by_cases c1 : cdA L i = 210
      · rw [if_pos (n2.mpr c1), if_pos c1, if_neg (by decide), if_neg (fun z => by have := (nI_eq (b := 16) (by omega) (by decide)).mp z; omega)]
        obtain ⟨N1, a1, a2, a3, a4⟩ := adv_n hP h (cd_pos c0)
        obtain ⟨X1, hX1⟩ : ∃ Z, Z = mw X 111 6 (nI (i + 1)) := ⟨_, rfl⟩
        rw [← hX1] at a2
        have xs1 : X1 119 2 = nI k := by rw [hX1, mw_ne (by decide)]; exact hs
        have x120 : X1 120 = X 120 := by rw [hX1, mw_ne (by decide)]
        have eo : F_Rd_openLine (nI k) 1 X = some X1 := by
          unfold F_Rd_openLine
          rw [if_neg (by decide), if_pos (show nI k < 16 from nI_lt (b := 16) hk (by decide)), fstf_d, h.2.2.1, nI_1, hX1]
        rw [eo, fbd_s, if_neg (by decide), if_neg (by decide), rc_T]
        unfold F_Mo_readReach F_Mo_readTold
        rw [ew, if_pos c1, if_neg (by decide), a1, fbd_s]
        rcases numb_n hP a2 0 11 with ⟨a, N2, b1, b2, b3, b4, b5, b6, b7, b8, b9⟩ | ⟨r, Y, N2, j, b2, b3, b4, b5, b6⟩
        · have ha12 : a < 12 := by
            have := ((gIn_nI (by omega)).mp b4).2
            rw [show (11 : Int32).toInt = 11 from rfl] at this
            omega
          obtain ⟨X2, hX2⟩ : ∃ Z, Z = mw X1 111 6 (nI (i + 1 + 1)) := ⟨_, rfl⟩
          rw [← hX2] at b2 b6
          have xs2 : X2 119 2 = nI k := by rw [hX2, mw_ne (by decide)]; exact xs1
          have x1202 : X2 120 = X 120 := by rw [hX2, mw_ne (by decide)]; exact x120
          have hT2 := b6.2.2.2.2.2.2.2
          have ew2 : F_Mo_isWord 26 N2 = if cdA L (i + 1 + 1) = 226 then 1 else 0 := word_n (w := 26) hT2 (by decide)
          rw [b2, b3]
          simp only [fbd_s]
          rw [if_neg (nI_nm1 (by omega)), ew2]
          unfold rcT
          by_cases c2 : cdA L (i + 1 + 1) = 226
          · rw [show F_Rd_take 226 X2 = some (mw X2 111 6 (nI (i + 1 + 1 + 1))) from take_t (k := 226) hP b6 c2, fbd_s, if_pos c2, if_neg (show ¬ (1 : Int32) = 0 by decide)]
            obtain ⟨N3, d1, d2, d3, d4⟩ := adv_n hP b6 (cd_pos (by omega))
            obtain ⟨X3, hX3⟩ : ∃ Z, Z = mw X2 111 6 (nI (i + 1 + 1 + 1)) := ⟨_, rfl⟩
            rw [← hX3] at d2 ⊢
            have xs3 : X3 119 2 = nI k := by rw [hX3, mw_ne (by decide)]; exact xs2
            have x1203 : X3 120 = X 120 := by rw [hX3, mw_ne (by decide)]; exact x1202
            have hT3 := d2.2.2.2.2.2.2.2
            have hb3 := hT3.b
            rw [d1, fbd_s, if_pos d2.2.2.2.1.1, now_n hP d2, fbd_s, fbd_s]
            -- the second SEAT
            have two : (∀ v, cdA L (i + 1 + 1 + 1) = 1000 + v → v + 1 < a ∨ a + 1 < v) → LO X0 M0 GR (fbd (J_Rd_readReach_54 (nI a) X3) fun I6 => J_Rd_readLines_106 (L_Rd_readLines_40 3 210 f) 3 210 (nI k) I6) (fbr (fbd (J_Mo_readReach_76 (nI a) N3) fun x => if x.fst = -1 then some (Sum.inr (-1, x.snd)) else L_Mo_readReaches_26 f' (nI k + 1) x.snd) (fun x => if x.snd 0 16 = 0 then some (x.fst, x.snd) else fbd (F_Mo_errs 1 x.snd) fun x => some (x.fst, x.snd)) fun x => some (x.fst, x.snd)) := by
              intro far
              unfold J_Rd_readReach_54 J_Mo_readReach_76
              rcases numb_n hP d2 0 11 with ⟨v, N4, v1, v2, v3, v4, v5, v6, v7, v8, v9⟩ | ⟨r, Y, N4, j, v2, v3, v4, v5, v6⟩
              · have hv12 : v < 12 := by
                  have := ((gIn_nI (by omega)).mp v4).2
                  rw [show (11 : Int32).toInt = 11 from rfl] at this
                  omega
                have hfar := far v v5
                obtain ⟨X4, hX4⟩ : ∃ Z, Z = mw X3 111 6 (nI (i + 1 + 1 + 1 + 1)) := ⟨_, rfl⟩
                rw [← hX4] at v2 v6
                have xs4 : X4 119 2 = nI k := by rw [hX4, mw_ne (by decide)]; exact xs3
                have x1204 : X4 120 = X 120 := by rw [hX4, mw_ne (by decide)]; exact x1203
                obtain ⟨g1, g2⟩ := radd_n hP v6 xs4 hk (nI a) (nI v) 0 0
                obtain ⟨X5, hX5⟩ : ∃ Z, Z = mw (mset X4 (119 + 1) (up4 (X4 (119 + 1)) k (nI a) (nI v) 0 0)) 119 2 (nI (k + 1)) := ⟨_, rfl⟩
                rw [← hX5] at g1 g2
                rw [v2, v3]
                simp only [fbd_s]
                rw [g1]
                simp only [fbd_s]
                rw [if_neg (nI_nm1 (by omega)), show (12 : Int32) + nI a = nI (12 + a) from nI_add 12 a, flod_n (by omega) (by decide), fsto_n (by omega) (by decide), show (12 : Int32) + nI v = nI (12 + v) from nI_add 12 v, flod_n (by omega) (by decide), fsto_n (by omega) (by decide)]
                have P5 := (g2.w21 (j := 12 + a) (v := N4 21 (12 + a) ||| (1 <<< (nI v &&& 31))) (by omega)).w21 (j := 12 + v) (v := mw N4 21 (12 + a) (N4 21 (12 + a) ||| (1 <<< (nI v &&& 31))) 21 (12 + v) ||| (1 <<< (nI a &&& 31))) (by omega)
                obtain ⟨N5, hN5⟩ : ∃ Z, Z = mw (mw N4 21 (12 + a) (N4 21 (12 + a) ||| (1 <<< (nI v &&& 31)))) 21 (12 + v) (mw N4 21 (12 + a) (N4 21 (12 + a) ||| (1 <<< (nI v &&& 31))) 21 (12 + v) ||| (1 <<< (nI a &&& 31))) := ⟨_, rfl⟩
                rw [← hN5] at P5 ⊢
                have e21 : N4 21 = M 21 := by rw [v8 21 (by decide), d3 21 (by decide), b8 21 (by decide), a3 21 (by decide)]
                have hG5 : GR X5 N5 (nI (k + 1)) := by
                  unfold GR at hG ⊢
                  rw [hs] at hG
                  have g := hG.add hk ha12 hv12 (by omega)
                  rw [hX5, mw_eq, pk_us, mw_ne (show 120 ≠ 119 by decide), show (120 : Nat) = 119 + 1 from rfl, mset_eq, show X4 (119 + 1) = X 120 from x1204]
                  refine g.eqs (fun _ _ _ _ _ => rfl) (fun j hj => ?_)
                  rw [hN5, mw_eq, mw_eq, e21]
                  simp only [upd_ap]
                  by_cases z1 : j = v
                  · rw [if_pos (by omega), if_pos z1, if_neg (by omega), if_neg (by omega)]
                  · rw [if_neg (by omega), if_neg z1]
                    by_cases z2 : j = a
                    · rw [if_pos (by omega), if_pos z2]
                    · rw [if_neg (by omega), if_neg z2]
                unfold J_Rd_readLines_106
                rcases mark_n hP P5 with ⟨N9, o1, o2, o3, o4, o5, o6⟩ | ⟨Y, N9, o1, o2, o3, o4, o5⟩
                · rw [o1, o2, fbd_s, nI_1]
                  simp only [fbd_s]
                  rw [if_neg (by decide)]
                  refine ih (k + 1) f f' _ _ _ o3 (by omega) (by omega) (by omega) ?_ (by rw [mw_ne (by decide), hX5, mw_eq, pk_us])
                  unfold GR at hG5 ⊢
                  rw [mw_ne (by decide), mw_ne (by decide), o5 21 (by decide)]; exact hG5
                · rw [o1, o2, fbd_s, nI_1, rl_e (by omega) (by omega) o3]
                  exact Or.inr ⟨Y, N9, _, _, rfl, rfl, o3, o4⟩
              · obtain ⟨r9, Y9, s9, g1, g2, g3, g4⟩ := radd_e hP v4 (by rw [v6 119 (by decide)]; exact xs3) (by omega) (nI a) r 0 0
                rw [v2, v3]
                simp only [fbd_s]
                rw [g1]
                simp only [fbd_s]
                rw [fin0 f k _ _ 210 Y9 (by omega) (by omega) g2]
                exact Or.inr ⟨Y9, N4, _, _, rfl, rfl, g2, v5⟩
            by_cases c3 : 1000 ≤ cdA L (i + 1 + 1 + 1)
            · obtain ⟨t3, v, v1, v2, v3⟩ := num_y hT3 c3
              rw [if_neg (show ¬ nI (cdA L (i + 1 + 1 + 1)) < 1000 from nI_nlt (b := 1000) c3 (by omega)), show nI (cdA L (i + 1 + 1 + 1)) - 1000 = nI v by rw [show (1000 : Int32) = nI 1000 from rfl, pk_sub c3]; exact congrArg nI (by omega), if_pos t3, v3, isIn_within _ _ _ N3 N3]
              by_cases c4 : v + 1 < a ∨ a + 1 < v
              · rw [if_pos ((ab_n (by omega) (by omega)).mpr c4), if_pos ((wi_near (by omega) (by omega)).mpr c4), ite_self]
                exact two (fun v' hv' => by rw [v2] at hv'; have : v' = v := by omega
                                            rw [this]; exact c4)
              · rw [if_neg (fun z => c4 ((ab_n (by omega) (by omega)).mp z)), if_neg (fun z => c4 ((wi_near (by omega) (by omega)).mp z))]
                obtain ⟨Y, y1, y2, y3⟩ := ref_n (k := 2) hP d2 (by decide) (by decide)
                obtain ⟨N9, e1, e2⟩ := err_n (k := 2) d2.2.2.2.2
                obtain ⟨Y9, s9, g1, g2, g3, g4⟩ := j54_e hP y2 (by rw [y3 119 (by decide)]; exact xs3) (by omega) (nI a)
                rw [show F_Rd_refuse 2 X3 = some Y from y1, fbd_s, g1, fbd_s, fin0 f k _ _ 210 Y9 (by omega) (by omega) g2, show F_Mo_errs 2 N3 = some (-1, N9) from e1]
                by_cases c5 : 12 ≤ v
                · rw [if_pos (show 12 ≤ nI v from nI_le (a := 12) c5 (by omega))]
                  have e6 : J_Mo_readReach_76 (nI a) N3 = some (-1, N9) := by
                    unfold J_Mo_readReach_76 F_Mo_readNumber
                    rw [if_pos t3, v3, isIn_within _ _ _ N3 N3, show F_Gb_within (nI v) 0 11 N3 = if 0 ≤ v ∧ v ≤ 11 then 1 else 0 from wi_if (a := 0) (b := 11) (by omega) (by decide) (by decide), if_neg (show ¬ (0 ≤ v ∧ v ≤ 11) by omega), if_pos rfl, show F_Mo_errs 2 N3 = some (-1, N9) from e1]
                    rfl
                  rw [e6]
                  exact Or.inr ⟨Y9, N9, _, _, rfl, rfl, g2, e2⟩
                · rw [if_neg (show ¬ 12 ≤ nI v from nI_ge (b := 12) (by omega) (by decide))]
                  exact Or.inr ⟨Y9, N9, _, _, rfl, rfl, g2, e2⟩
            · rw [if_pos (show nI (cdA L (i + 1 + 1 + 1)) < 1000 from nI_lt (b := 1000) (by omega) (by decide)), if_neg (num_no hT3 c3)]
              exact two (fun v hv => by omega)
          · obtain ⟨Y, y1, y2, y3⟩ := take_f (k := 226) hP b6 c2 (by decide)
            obtain ⟨N3, e1, e2⟩ := err_n (k := 1) b6.2.2.2.2
            obtain ⟨Y9, s9, g1, g2, g3, g4⟩ := j54_e hP y2 (by rw [y3 119 (by decide)]; exact xs2) (by omega) (nI a)
            rw [show F_Rd_take 226 X2 = some Y from y1, fbd_s, if_neg y2.f, g1, fbd_s, fin0 f k _ _ 210 Y9 (by omega) (by omega) g2, if_neg c2, if_pos rfl, show F_Mo_errs 1 N2 = some (-1, N3) from e1]
            exact Or.inr ⟨Y9, N3, _, _, rfl, rfl, g2, e2⟩
        · obtain ⟨Y9, s9, g1, g2, g3, g4⟩ := rcT_e hP b4 (by rw [b6 119 (by decide)]; exact xs1) (by omega) r
          rw [b2, b3]
          simp only [fbd_s]
          rw [g1, fbd_s, fin0 f k _ _ 210 Y9 (by omega) (by omega) g2, if_pos True.intro]
          exact Or.inr ⟨Y9, _, _, _, rfl, rfl, g2, b5⟩
      · rw [if_neg (fun z => c1 (n2.mp z)), if_neg c1, if_pos rfl]
        obtain ⟨Y, y1, y2, y3⟩ := ref_n (k := 1) hP h (by decide) (by decide)
        obtain ⟨N, e1, e2⟩ := err_n (k := 1) h.2.2.2.2
        have eo : F_Rd_openLine (nI k) 0 X = some Y := by
          unfold F_Rd_openLine
          rw [if_pos rfl, show F_Rd_refuse 1 X = some Y from y1, fbd_s]
        obtain ⟨Y2, g1, g2⟩ := fin f k _ _ 210 Y (by omega) (by omega) y2 ⟨k, by rw [y3 119 (by decide)]; exact hs, by omega⟩
        rw [eo, fbd_s, if_neg (by decide), if_neg (by decide)]
        simp only [fbr]
        rw [if_neg (fun z => c0 ((end_y hT).mp z)), show F_Mo_errs 1 M = some (-1, N) from e1]
        exact Or.inr ⟨Y2, N, _, _, g1, rfl, g2, e2⟩
end REACH
