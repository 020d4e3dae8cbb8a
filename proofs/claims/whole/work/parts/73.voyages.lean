/-! VOYAGES. -/
def LO (X0 M0 : gb_Mem) (G : gb_Mem → gb_Mem → Int32 → Prop) (oc : Option gb_Mem) (om : Option (Int32 × gb_Mem)) : Prop := (∃ Y N k, k ≤ 16 ∧ oc = some Y ∧ om = some (nI k, N) ∧ XF X0 Y ∧ MF M0 N ∧ Y 111 7 = 0 ∧ Y 111 8 = -1 ∧ G Y N (nI k)) ∨ (∃ Y N k p, oc = some Y ∧ om = some (-1, N) ∧ XE X0 k p Y ∧ ME M0 k p N)
section LINES
variable {T : Nat → Nat} {len : Nat} {L : List (Nat × Nat)} {X0 M0 X M Y N : gb_Mem} {i k p sz : Nat}
theorem XF.a {x1 x2 x3 x4 v : Int32} (h : XF X0 X) : XF X0 (mw (mset X (119 + 1) (up4 (X (119 + 1)) sz x1 x2 x3 x4)) 119 2 v) := by
  refine h.d (fun c hc => by rw [mw_ne (by omega), mset_ne (by omega)]) (by rw [mw_ne (by decide), mset_ne (by decide)]) (by rw [mw_eq, pk_un (by decide), mset_ne (by decide)])
theorem lim_n (hP : PC T len L X0 M0) (h : XF X0 X) : X 119 0 = nI 16 := h.2.2.2.2.2.trans hP.2.2.2.2.1
theorem radd_e (hP : PC T len L X0 M0) (h : XE X0 k p X) (hs : X 119 2 = nI sz) (hz : sz ≤ 16) (x1 x2 x3 x4 : Int32) : ∃ r Y s2, F_Ro_add 119 64 x1 x2 x3 x4 X = some (r, Y) ∧ XE X0 k p Y ∧ Y 119 2 = nI s2 ∧ s2 ≤ 16 := by
  rw [ro_add (lim := 16) (k := sz) x1 x2 x3 x4 (lim_n hP h.1) hs hz rfl (by decide)]
  by_cases c : sz = 16
  · rw [if_pos c]; exact ⟨-1, X, sz, rfl, h, hs, hz⟩
  · rw [if_neg c]
    obtain ⟨h1, h2, h3, h4, h5⟩ := h
    exact ⟨_, _, sz + 1, rfl, ⟨h1.a, h2, h3, by rw [mw_ne (by decide), mset_ne (by decide)]; exact h4, by rw [mw_ne (by decide), mset_ne (by decide)]; exact h5⟩, by rw [mw_eq, pk_us], by omega⟩
theorem radd_n (hP : PC T len L X0 M0) (h : PS T len L X0 M0 i X M) (hs : X 119 2 = nI sz) (hz : sz < 16) (x1 x2 x3 x4 : Int32) : F_Ro_add 119 64 x1 x2 x3 x4 X = some (nI (sz + 1), mw (mset X (119 + 1) (up4 (X (119 + 1)) sz x1 x2 x3 x4)) 119 2 (nI (sz + 1))) ∧ PS T len L X0 M0 i (mw (mset X (119 + 1) (up4 (X (119 + 1)) sz x1 x2 x3 x4)) 119 2 (nI (sz + 1))) M := by
  refine ⟨?_, ?_⟩
  · rw [ro_add (lim := 16) (k := sz) x1 x2 x3 x4 (lim_n hP h.1) hs (by omega) rfl (by decide), if_neg (by omega)]
  · obtain ⟨h1, h2, h3, h4, h5⟩ := h
    exact ⟨h1.a, h2, by rw [mw_ne (by decide), mset_ne (by decide)]; exact h3, by rw [mw_ne (by decide), mset_ne (by decide)]; exact h4, h5⟩
theorem voy_e (hP : PC T len L X0 M0) (h : XE X0 k p X) (hs : X 119 2 = nI sz) (hz : sz ≤ 16) : ∃ Y s2, F_Rd_readVoyage X = some Y ∧ XE X0 k p Y ∧ Y 119 2 = nI s2 ∧ s2 ≤ 16 := by
  obtain ⟨r1, e1⟩ := tnum_e hP h 0 (X 111 2 - 1)
  obtain ⟨r2, e2⟩ := tnum_e hP h 1 99
  obtain ⟨r, Y, s2, a1, a2, a3, a4⟩ := radd_e hP h hs hz r1 r2 0 0
  refine ⟨Y, s2, ?_, a2, a3, a4⟩
  unfold F_Rd_readVoyage
  rw [e1]
  simp only [fbd_s]
  rw [take_e hP h, fbd_s, e2]
  simp only [fbd_s]
  rw [a1]; rfl
/-- the loop's rest after a FAULT -/
theorem rl_e {x1 x2 : Int32} {f : Nat} (hf : 0 < f) (hk : k < 2 ^ 31) {j : Nat} {q : Nat} (h : XE X0 j q X) : L_Rd_readLines_40 x1 x2 f (nI k) X = some X := by
  obtain ⟨f, rfl⟩ : ∃ g, f = g + 1 := ⟨f - 1, by omega⟩
  simp only [L_Rd_readLines_40]
  rw [if_neg h.f, ite_self]
theorem GVoy.add {c d : Nat → Int32} {b : Nat} {v : Int32} (h : GVoy (nI k) c (nI k) d) (hk : k < 16) (hb : b < 8) (hv : gIn v 1 99) : GVoy (nI (k + 1)) (up4 c k (nI b) v 0 0) (nI (k + 1)) (upd d b v) := by
  obtain ⟨-, k2, hk2, e2, h3, h4⟩ := h
  have : k = k2 := (nI_eq (by omega) (by omega)).mp e2
  subst this
  have hc : ∀ j, j < 4 * k → up4 c k (nI b) v 0 0 j = c j := fun j hj => up4_lt hj
  refine ⟨rfl, k + 1, by omega, rfl, fun i hi => ?_, fun x hx => ?_⟩
  · by_cases e : i = k
    · subst e
      rw [up4_0, up4_1]
      exact ⟨(gIn_nI (by omega)).mpr ⟨by omega, by omega⟩, hv⟩
    · rw [hc _ (by omega), hc _ (by omega)]; exact h3 i (by omega)
  · have eg : gVoy (up4 c k (nI b) v 0 0) (nI x) (k + 1) = if up4 c k (nI b) v 0 0 (4 * k) = nI x then up4 c k (nI b) v 0 0 (4 * k + 1) else gVoy (up4 c k (nI b) v 0 0) (nI x) k := rfl
    rw [eg, up4_0, up4_1, gVoy_eqs k hc, upd_ap]
    by_cases e : x = b
    · rw [if_pos e, if_pos (by rw [e])]
    · rw [if_neg e, if_neg (fun z => e ((nI_eq (by omega) (by omega)).mp z).symm)]; exact h4 x hx
theorem boat_b {n v : Nat} {x : Int32} (hn : n ≤ 8) (hx : x = nI n) (hv : v < 10000) (h : gIn (nI v) (0 : Int32).toInt (x - 1).toInt) : v < 8 := by
  subst hx
  cases n with
  | zero =>
    have := h.2
    rw [show (nI 0 - 1 : Int32).toInt = -1 from rfl, nI_toInt (by omega)] at this
    omega
  | succ n =>
    rw [nI_pred, nI_toInt (n := n) (by omega)] at h
    have := ((gIn_nI (by omega)).mp h).2
    omega
def RVf (f : Nat) (x : Int32) (M : gb_Mem) : Option (Int32 × gb_Mem) := fbr (L_Mo_readVoyages_26 f x M) (fun (o12, I13) => if (I13 0 16) = 0 then some (o12, I13) else fbd (F_Mo_errs 1 I13) fun (r17, I16) => some (r17, I16)) (fun (q14, I15) => some (q14, I15))
def GV (Y N : gb_Mem) (k : Int32) : Prop := GVoy (Y 119 2) (Y 120) k (fun j => N 19 (8 + j))
theorem voy_l2 (hP : PC T len L X0 M0) : ∀ m k f f' i X M, PS T len L X0 M0 i X M → k + m = 16 → m + 1 < f → m + 1 < f' → GV X M (nI k) → X 119 2 = nI k → LO X0 M0 GV (L_Rd_readLines_40 1 219 f (nI k) X) (RVf f' (nI k) M) := by
  intro m
  have fin : ∀ (f : Nat) (k : Nat) (j q : Nat) (x2 : Int32) (Y : gb_Mem), 0 < f → k < 1000 → XE X0 j q Y → (∃ sz, Y 119 2 = nI sz ∧ sz ≤ 16) → ∃ Y2, (fbd (F_Rd_readVoyage Y) fun I9 => J_Rd_readLines_106 (L_Rd_readLines_40 1 x2 f) 1 x2 (nI k) I9) = some Y2 ∧ XE X0 j q Y2 := by
    intro f k j q x2 Y hf hk hE ⟨sz, s1, s2⟩
    obtain ⟨Y2, sz2, a1, a2, a3, a4⟩ := voy_e hP hE s1 s2
    refine ⟨Y2, ?_, a2⟩
    unfold J_Rd_readLines_106
    rw [a1, fbd_s, take_e hP a2, fbd_s, nI_1, rl_e hf (by omega) a2]
  induction m with
  | zero =>
    intro k f f' i X M h hm hf hf' hG hs
    obtain ⟨f, rfl⟩ : ∃ g, f = g + 1 := ⟨f - 1, by omega⟩
    obtain ⟨f', rfl⟩ : ∃ g, f' = g + 1 := ⟨f' - 1, by omega⟩
    have hT := h.2.2.2.2.2.2.2
    have hb := hT.b
    have n0 : nI (cdA L i) = 0 ↔ cdA L i = 0 := nI_eq (b := 0) (by omega) (by decide)
    have n2 : nI (cdA L i) = 219 ↔ cdA L i = 219 := nI_eq (b := 219) (by omega) (by decide)
    have ew : F_Mo_isWord 19 M = if cdA L i = 219 then 1 else 0 := word_n (w := 19) hT (by decide)
    have hk : k = 16 := by omega
    subst hk
    simp only [L_Rd_readLines_40, RVf, L_Mo_readVoyages_26, J_Rd_readLines_75]
    rw [if_neg (show ¬ 16 < nI 16 by decide), if_pos h.2.2.2.1.1, now_n hP h, fbd_s, fbd_s, ew]
    by_cases c0 : cdA L i = 0
    · rw [if_pos (n0.mpr c0), if_neg (show ¬ cdA L i = 219 by omega), if_pos rfl]
      refine Or.inl ⟨X, M, 16, by decide, rfl, ?_, h.1, h.2.2.2.2.1, h.2.2.2.1.1, h.2.2.2.1.2, hG⟩
      simp only [fbr]
      rw [if_pos ((end_y hT).mpr c0)]
    · rw [if_neg (fun z => c0 (n0.mp z))]
      by_cases c1 : cdA L i = 219
      · rw [if_pos (n2.mpr c1), if_pos c1, if_neg (by decide), if_pos (show nI 16 = 16 from rfl)]
        obtain ⟨Y, y1, y2, y3⟩ := ref_n (k := 3) hP h (by decide) (by decide)
        obtain ⟨N, e1, e2⟩ := err_n (k := 3) h.2.2.2.2
        have eo : F_Rd_openLine (nI 16) 1 X = some Y := by
          unfold F_Rd_openLine
          rw [if_neg (by decide), if_neg (by decide), show F_Rd_refuse 3 X = some Y from y1, fbd_s]
        obtain ⟨Y2, g1, g2⟩ := fin f 16 _ _ 219 Y (by omega) (by decide) y2 ⟨16, by rw [y3 119 (by decide)]; exact hs, Nat.le_refl _⟩
        rw [eo, fbd_s, if_pos True.intro, show F_Mo_errs 3 M = some (-1, N) from e1]
        exact Or.inr ⟨Y2, N, _, _, g1, rfl, g2, e2⟩
      · rw [if_neg (fun z => c1 (n2.mp z)), if_neg c1, if_pos rfl]
        obtain ⟨Y, y1, y2, y3⟩ := ref_n (k := 1) hP h (by decide) (by decide)
        obtain ⟨N, e1, e2⟩ := err_n (k := 1) h.2.2.2.2
        have eo : F_Rd_openLine (nI 16) 0 X = some Y := by
          unfold F_Rd_openLine
          rw [if_pos rfl, show F_Rd_refuse 1 X = some Y from y1, fbd_s]
        obtain ⟨Y2, g1, g2⟩ := fin f 16 _ _ 219 Y (by omega) (by decide) y2 ⟨16, by rw [y3 119 (by decide)]; exact hs, Nat.le_refl _⟩
        rw [eo, fbd_s, if_pos True.intro]
        simp only [fbr]
        rw [if_neg (fun z => c0 ((end_y hT).mp z)), show F_Mo_errs 1 M = some (-1, N) from e1]
        exact Or.inr ⟨Y2, N, _, _, g1, rfl, g2, e2⟩
  | succ m ih =>
    intro k f f' i X M h hm hf hf' hG hs
    obtain ⟨f, rfl⟩ : ∃ g, f = g + 1 := ⟨f - 1, by omega⟩
    obtain ⟨f', rfl⟩ : ∃ g, f' = g + 1 := ⟨f' - 1, by omega⟩
    have hT := h.2.2.2.2.2.2.2
    have hb := hT.b
    have n0 : nI (cdA L i) = 0 ↔ cdA L i = 0 := nI_eq (b := 0) (by omega) (by decide)
    have n2 : nI (cdA L i) = 219 ↔ cdA L i = 219 := nI_eq (b := 219) (by omega) (by decide)
    have ew : F_Mo_isWord 19 M = if cdA L i = 219 then 1 else 0 := word_n (w := 19) hT (by decide)
    have hk : k < 16 := by omega
    simp only [L_Rd_readLines_40, RVf, L_Mo_readVoyages_26, J_Rd_readLines_75]
    rw [if_neg (show ¬ 16 < nI k from nI_nlt (a := 16) (by omega) (by decide)), if_pos h.2.2.2.1.1, now_n hP h, fbd_s, fbd_s, ew]
    by_cases c0 : cdA L i = 0
    · rw [if_pos (n0.mpr c0), if_neg (show ¬ cdA L i = 219 by omega), if_pos rfl]
      refine Or.inl ⟨X, M, k, by omega, rfl, ?_, h.1, h.2.2.2.2.1, h.2.2.2.1.1, h.2.2.2.1.2, hG⟩
      simp only [fbr]
      rw [if_pos ((end_y hT).mpr c0)]
    · rw [if_neg (fun z => c0 (n0.mp z))]
      by_cases c1 : cdA L i = 219
      · rw [if_pos (n2.mpr c1), if_pos c1, if_neg (by decide), if_neg (fun z => by have := (nI_eq (b := 16) (by omega) (by decide)).mp z; omega)]
        -- the line
        obtain ⟨N1, a1, a2, a3, a4⟩ := adv_n hP h (cd_pos c0)
        obtain ⟨X1, hX1⟩ : ∃ Z, Z = mw X 111 6 (nI (i + 1)) := ⟨_, rfl⟩
        rw [← hX1] at a2
        have xs1 : X1 119 2 = nI k := by rw [hX1, mw_ne (by decide)]; exact hs
        have x120 : X1 120 = X 120 := by rw [hX1, mw_ne (by decide)]
        have eo : F_Rd_openLine (nI k) 1 X = some X1 := by
          unfold F_Rd_openLine
          rw [if_neg (by decide), if_pos (show nI k < 16 from nI_lt (b := 16) hk (by decide)), fstf_d, h.2.2.1, nI_1, hX1]
        rw [eo, fbd_s, if_pos True.intro]
        have eb : X1 111 2 = M 0 6 := by
          rw [a2.1.2.2.2.1 2 (by decide) (by decide) (by decide), hP.2.2.2.2.2.2.1]
          exact (h.2.2.2.2.1.2.1 6 (by decide) (by decide) (by decide) (by decide) (by decide) (by decide)).symm
        obtain ⟨nb, enb, hnb, -⟩ := gIn_n hP.2.2.2.2.2.2.2
        have em6 : M 0 6 = nI nb := by rw [h.2.2.2.2.1.2.1 6 (by decide) (by decide) (by decide) (by decide) (by decide) (by decide)]; exact enb
        unfold F_Mo_readTold
        rw [ew, if_pos c1, if_neg (by decide), a1, fbd_s]
        rcases numb_n hP a2 0 (M 0 6 - 1) with ⟨b, N2, b1, b2, b3, b4, b5, b6, b7, b8, b9⟩ | ⟨r, Y, N2, j, b2, b3, b4, b5, b6⟩
        · have hb8 := boat_b (by omega) em6 b1 b4
          obtain ⟨X2, hX2⟩ : ∃ Z, Z = mw X1 111 6 (nI (i + 1 + 1)) := ⟨_, rfl⟩
          rw [← hX2] at b2 b6
          have xs2 : X2 119 2 = nI k := by rw [hX2, mw_ne (by decide)]; exact xs1
          have x1202 : X2 120 = X 120 := by rw [hX2, mw_ne (by decide)]; exact x120
          have hT2 := b6.2.2.2.2.2.2.2
          have ew2 : F_Mo_isWord 20 N2 = if cdA L (i + 1 + 1) = 220 then 1 else 0 := word_n (w := 20) hT2 (by decide)
          rw [b3]
          simp only [fbd_s]
          rw [if_neg (nI_nm1 (by omega)), ew2]
          unfold F_Rd_readVoyage
          rw [eb, b2]
          simp only [fbd_s]
          by_cases c2 : cdA L (i + 1 + 1) = 220
          · rw [show F_Rd_take 220 X2 = some (mw X2 111 6 (nI (i + 1 + 1 + 1))) from take_t (k := 220) hP b6 c2, fbd_s, if_pos c2, if_neg (by decide)]
            obtain ⟨N3, d1, d2, d3, d4⟩ := adv_n hP b6 (cd_pos (by omega))
            obtain ⟨X3, hX3⟩ : ∃ Z, Z = mw X2 111 6 (nI (i + 1 + 1 + 1)) := ⟨_, rfl⟩
            rw [← hX3] at d2 ⊢
            have xs3 : X3 119 2 = nI k := by rw [hX3, mw_ne (by decide)]; exact xs2
            have x1203 : X3 120 = X 120 := by rw [hX3, mw_ne (by decide)]; exact x1202
            rw [d1, fbd_s]
            rcases numb_n hP d2 1 99 with ⟨v, N4, v1, v2, v3, v4, v5, v6, v7, v8, v9⟩ | ⟨r, Y, N4, j, v2, v3, v4, v5, v6⟩
            · obtain ⟨X4, hX4⟩ : ∃ Z, Z = mw X3 111 6 (nI (i + 1 + 1 + 1 + 1)) := ⟨_, rfl⟩
              rw [← hX4] at v2 v6
              have xs4 : X4 119 2 = nI k := by rw [hX4, mw_ne (by decide)]; exact xs3
              have x1204 : X4 120 = X 120 := by rw [hX4, mw_ne (by decide)]; exact x1203
              obtain ⟨g1, g2⟩ := radd_n hP v6 xs4 hk (nI b) (nI v) 0 0
              obtain ⟨X5, hX5⟩ : ∃ Z, Z = mw (mset X4 (119 + 1) (up4 (X4 (119 + 1)) k (nI b) (nI v) 0 0)) 119 2 (nI (k + 1)) := ⟨_, rfl⟩
              rw [← hX5] at g1 g2
              rw [v2, v3]
              simp only [fbd_s]
              rw [g1]
              simp only [fbd_s]
              rw [if_neg (nI_nm1 (by omega))]
              unfold J_Rd_readLines_106
              rcases mark_n hP g2 with ⟨N5, o1, o2, o3, o4, o5, o6⟩ | ⟨Y, N5, o1, o2, o3, o4, o5⟩
              · rw [o1, o2, fbd_s, nI_1]
                simp only [fbd_s]
                rw [if_neg (by decide), show (8 : Int32) + nI b = nI (8 + b) from nI_add 8 b, fsto_n (by omega) (by decide)]
                have q2 := o3.2.2.2.2
                have hfr : MF M0 (mw N5 19 (8 + b) (nI v)) := by
                  obtain ⟨h1, h2, h3, h4, h5, h6, h7⟩ := q2.1
                  exact ⟨fun c c0 c1 => by rw [mw_ne (by omega)]; exact h1 c c0 c1, fun k k1 k2 k3 k4 k5 k6 => by rw [mw_ne (by decide)]; exact h2 k k1 k2 k3 k4 k5 k6, fun c k a b d => by rw [mw_ne (by omega)]; exact h3 c k a b d, fun c k a b d => by rw [mw_ne (by omega)]; exact h4 c k a b d, fun k a => by rw [mw_eq, pk_un (by omega)]; exact h5 k a, fun k a => by rw [mw_ne (by decide)]; exact h6 k a, fun k a => by rw [mw_ne (by decide)]; exact h7 k a⟩
                have hPS : PS T len L X0 M0 (i + 1 + 1 + 1 + 1 + 1) (mw X5 111 6 (nI (i + 1 + 1 + 1 + 1 + 1))) (mw N5 19 (8 + b) (nI v)) := ⟨o3.1, o3.2.1, o3.2.2.1, o3.2.2.2.1, hfr, by rw [mw_ne (by decide)]; exact q2.2.1, by rw [mw_ne (by decide)]; exact q2.2.2.1, by rw [mw_ne (by decide)]; exact q2.2.2.2⟩
                have e19 : N5 19 = M 19 := by rw [o5 19 (by decide), v8 19 (by decide), d3 19 (by decide), b8 19 (by decide), a3 19 (by decide)]
                have hG2 : GV (mw X5 111 6 (nI (i + 1 + 1 + 1 + 1 + 1))) (mw N5 19 (8 + b) (nI v)) (nI (k + 1)) := by
                  unfold GV at hG ⊢
                  rw [hs] at hG
                  have g := hG.add hk hb8 (v := nI v) v4
                  rw [mw_ne (show 119 ≠ 111 by decide), mw_ne (show 120 ≠ 111 by decide), hX5, mw_eq, pk_us, mw_ne (show 120 ≠ 119 by decide), show (120 : Nat) = 119 + 1 from rfl, mset_eq, show X4 (119 + 1) = X 120 from x1204]
                  refine g.eqs (fun _ _ _ _ _ => rfl) (fun j hj => ?_)
                  rw [mw_eq, upd_ap, e19, upd_ap]
                  by_cases z : j = b
                  · rw [if_pos (by omega), if_pos z]
                  · rw [if_neg (by omega), if_neg z]
                exact ih (k + 1) f f' _ _ _ hPS (by omega) (by omega) (by omega) hG2 (by rw [mw_ne (by decide), hX5, mw_eq, pk_us])
              · rw [o1, o2, fbd_s, nI_1, rl_e (by omega) (by omega) o3]
                exact Or.inr ⟨Y, N5, _, _, rfl, rfl, o3, o4⟩
            · obtain ⟨r9, Y9, s9, g1, g2, g3, g4⟩ := radd_e hP v4 (by rw [v6 119 (by decide)]; exact xs3) (by omega) (nI b) r 0 0
              rw [v2, v3]
              simp only [fbd_s]
              rw [g1]
              simp only [fbd_s]
              unfold J_Rd_readLines_106
              rw [take_e hP g2, fbd_s, nI_1, rl_e (by omega) (by omega) g2, if_pos True.intro]
              exact Or.inr ⟨Y9, N4, _, _, rfl, rfl, g2, v5⟩
          · obtain ⟨Y, y1, y2, y3⟩ := take_f (k := 220) hP b6 c2 (by decide)
            obtain ⟨N3, e1, e2⟩ := err_n (k := 1) b6.2.2.2.2
            obtain ⟨r8, t8⟩ := tnum_e hP y2 1 99
            obtain ⟨r9, Y9, s9, g1, g2, g3, g4⟩ := radd_e hP y2 (by rw [y3 119 (by decide)]; exact xs2) (by omega) (nI b) r8 0 0
            rw [show F_Rd_take 220 X2 = some Y from y1, fbd_s, t8]
            simp only [fbd_s]
            rw [g1]
            simp only [fbd_s]
            unfold J_Rd_readLines_106
            rw [take_e hP g2, fbd_s, nI_1, rl_e (by omega) (by omega) g2, if_neg c2, if_pos rfl, show F_Mo_errs 1 N2 = some (-1, N3) from e1]
            exact Or.inr ⟨Y9, N3, _, _, rfl, rfl, g2, e2⟩
        · have w1 : F_Rd_readVoyage X1 = fbd (some (r, Y)) fun (r2, I1) => fbd (F_Rd_take 220 I1) fun I3 => fbd (F_Rd_takeNumber 1 99 I3) fun (r5, I4) => fbd (F_Ro_add 119 64 r2 r5 0 0 I4) fun (r7, I6) => some I6 := by
            unfold F_Rd_readVoyage
            rw [eb, b2]
          obtain ⟨r8, t8⟩ := tnum_e hP b4 1 99
          obtain ⟨r9, Y9, s9, g1, g2, g3, g4⟩ := radd_e hP b4 (by rw [b6 119 (by decide)]; exact xs1) (by omega) r r8 0 0
          rw [w1, b3]
          simp only [fbd_s]
          rw [take_e hP b4, fbd_s, t8]
          simp only [fbd_s]
          rw [g1]
          simp only [fbd_s]
          unfold J_Rd_readLines_106
          rw [take_e hP g2, fbd_s, nI_1, rl_e (by omega) (by omega) g2, if_pos True.intro]
          exact Or.inr ⟨Y9, N2, _, _, rfl, rfl, g2, b5⟩
      · rw [if_neg (fun z => c1 (n2.mp z)), if_neg c1, if_pos rfl]
        obtain ⟨Y, y1, y2, y3⟩ := ref_n (k := 1) hP h (by decide) (by decide)
        obtain ⟨N, e1, e2⟩ := err_n (k := 1) h.2.2.2.2
        have eo : F_Rd_openLine (nI k) 0 X = some Y := by
          unfold F_Rd_openLine
          rw [if_pos rfl, show F_Rd_refuse 1 X = some Y from y1, fbd_s]
        obtain ⟨Y2, g1, g2⟩ := fin f k _ _ 219 Y (by omega) (by omega) y2 ⟨k, by rw [y3 119 (by decide)]; exact hs, by omega⟩
        rw [eo, fbd_s, if_pos True.intro]
        simp only [fbr]
        rw [if_neg (fun z => c0 ((end_y hT).mp z)), show F_Mo_errs 1 M = some (-1, N) from e1]
        exact Or.inr ⟨Y2, N, _, _, g1, rfl, g2, e2⟩
end LINES
