/-! Ones of a set; spoons. -/
def popc (n : Nat) : Nat := cnt (fun j => n.testBit j) 12
theorem popc_le (n : Nat) : popc n ≤ 12 := cnt_le _ 12
def I00 : gb_Mem := fun _ _ => 0
theorem ones_e : ∀ a, a < 64 → ∀ b, b < 64 → L_Mo_onesOf_4 I00 13 0 (nI (64 * a + b)) = some (nI (popc (64 * a + b))) := by decide +kernel
theorem bitc_e : ∀ a, a < 64 → ∀ b, b < 64 → F_Ji_bitCount (nI (64 * a + b)) I00 = nI (popc (64 * a + b)) := by decide +kernel
theorem ones_d (n : Nat) (h : n < 4096) : L_Mo_onesOf_4 I00 13 0 (nI n) = some (nI (popc n)) := by
  have := ones_e (n / 64) (by omega) (n % 64) (by omega)
  rw [Nat.div_add_mod] at this; exact this
theorem bitc_d (n : Nat) (h : n < 4096) : F_Ji_bitCount (nI n) I00 = nI (popc n) := by
  have := bitc_e (n / 64) (by omega) (n % 64) (by omega)
  rw [Nat.div_add_mod] at this; exact this
theorem ones_mono {I I2 : gb_Mem} : ∀ f g a x r, L_Mo_onesOf_4 I f a x = some r → L_Mo_onesOf_4 I2 (f + g) a x = some r := by
  intro f
  induction f with
  | zero => intro g a x r h; cases h
  | succ f ih =>
    intro g a x r h
    rw [show f + 1 + g = (f + g) + 1 by omega]
    simp only [L_Mo_onesOf_4] at h ⊢
    by_cases c : x = 0
    · rw [if_pos c] at h ⊢; exact h
    · rw [if_neg c, flt_d] at h ⊢
      exact ih g _ _ _ h
theorem ones_n {n : Nat} {I : gb_Mem} (hn : n < 4096) : F_Mo_onesOf (nI n) I = some (nI (popc n)) := by
  unfold F_Mo_onesOf
  rw [fbd_i]
  exact ones_mono (I := I00) 13 4987 0 (nI n) _ (ones_d n hn)
theorem bitc_n {n : Nat} {I : gb_Mem} (hn : n < 4096) : F_Ji_bitCount (nI n) I = nI (popc n) := bitc_d n hn
theorem nI_xor {a b : Nat} (ha : a < 2 ^ 32) (hb : b < 2 ^ 32) : nI a ^^^ nI b = nI (a ^^^ b) := by
  refine tb_ext (fun j hj => ?_)
  rw [tb_xor, tb_nI j ha, tb_nI j hb, tb_nI j (Nat.xor_lt_two_pow ha hb), Nat.testBit_xor]
theorem said_l {IX I1 : gb_Mem} (x1 : Int32) : ∀ m i fX fM acc, i + m = 4 → m < fX → m < fM → ∃ v, L_Re_said_4 x1 IX fX acc (nI i) = some v ∧ L_Mo_saidBy_4 x1 I1 fM acc (nI i) = some v := by
  intro m
  induction m with
  | zero =>
    intro i fX fM acc hi h1 h2
    obtain ⟨fX, rfl⟩ : ∃ g, fX = g + 1 := ⟨fX - 1, by omega⟩
    obtain ⟨fM, rfl⟩ : ∃ g, fM = g + 1 := ⟨fM - 1, by omega⟩
    refine ⟨acc, ?_, ?_⟩
    · simp only [L_Re_said_4]
      rw [show (4 : Int32) = nI 4 from rfl, if_pos (nI_le (by omega) (by omega))]
    · simp only [L_Mo_saidBy_4]
      rw [show (4 : Int32) = nI 4 from rfl, if_pos (nI_le (by omega) (by omega))]
  | succ m ih =>
    intro i fX fM acc hi h1 h2
    obtain ⟨fX, rfl⟩ : ∃ g, fX = g + 1 := ⟨fX - 1, by omega⟩
    obtain ⟨fM, rfl⟩ : ∃ g, fM = g + 1 := ⟨fM - 1, by omega⟩
    simp only [L_Re_said_4, L_Mo_saidBy_4, J_Re_said_32, J_Mo_saidBy_31, flt_d]
    rw [if_neg (show ¬ 4 ≤ nI i from nI_ge (b := 4) (by omega) (by omega)), if_neg (show ¬ 4 ≤ nI i from nI_ge (b := 4) (by omega) (by omega))]
    obtain ⟨y, hy, ey⟩ := pk_andE (x1 >>> ((3 * nI i) &&& 31)) (m := 7) 3 (by decide)
    have hp := popc_le y
    rw [ey, ones_n (by omega), fbd_s, bitc_n (by omega), nI_1]
    by_cases c : popc y < 2
    · rw [if_pos (show nI (popc y) < 2 from nI_lt (b := 2) c (by omega)), if_pos (show nI (popc y) ≤ 1 from nI_le (b := 1) (by omega) (by omega)), Int32.or_zero]
      exact ih (i + 1) fX fM _ (by omega) (by omega) (by omega)
    · rw [if_neg (show ¬ nI (popc y) < 2 from nI_nlt (b := 2) (by omega) (by omega)), if_neg (show ¬ nI (popc y) ≤ 1 from nI_ge (a := 1) (by omega) (by omega))]
      exact ih (i + 1) fX fM _ (by omega) (by omega) (by omega)
theorem wrong_d : ∀ y, y < 8 → (F_Gb_within (nI y) 1 6 I00 = 0 ↔ (nI y = 0 ∨ nI y = 7)) := by decide +kernel
theorem wrong_l {IX I1 : gb_Mem} (x1 : Int32) : ∀ m i fX fM acc, i + m = 4 → m < fX → m < fM → ∃ v, L_Re_wrongRows_4 x1 IX fX acc (nI i) = some v ∧ L_Mo_wrongIn_4 x1 I1 fM acc (nI i) = some v := by
  intro m
  induction m with
  | zero =>
    intro i fX fM acc hi h1 h2
    obtain ⟨fX, rfl⟩ : ∃ g, fX = g + 1 := ⟨fX - 1, by omega⟩
    obtain ⟨fM, rfl⟩ : ∃ g, fM = g + 1 := ⟨fM - 1, by omega⟩
    refine ⟨acc, ?_, ?_⟩
    · simp only [L_Re_wrongRows_4]
      rw [show (4 : Int32) = nI 4 from rfl, if_pos (nI_le (by omega) (by omega))]
    · simp only [L_Mo_wrongIn_4]
      rw [show (4 : Int32) = nI 4 from rfl, if_pos (nI_le (by omega) (by omega))]
  | succ m ih =>
    intro i fX fM acc hi h1 h2
    obtain ⟨fX, rfl⟩ : ∃ g, fX = g + 1 := ⟨fX - 1, by omega⟩
    obtain ⟨fM, rfl⟩ : ∃ g, fM = g + 1 := ⟨fM - 1, by omega⟩
    simp only [L_Re_wrongRows_4, L_Mo_wrongIn_4, J_Re_wrongRows_37, J_Re_wrongRows_32, J_Mo_wrongIn_31, flt_d]
    rw [if_neg (show ¬ 4 ≤ nI i from nI_ge (b := 4) (by omega) (by omega)), if_neg (show ¬ 4 ≤ nI i from nI_ge (b := 4) (by omega) (by omega))]
    obtain ⟨y, hy, ey⟩ := pk_andE (x1 >>> ((3 * nI i) &&& 31)) (m := 7) 3 (by decide)
    rw [ey, isIn_within _ _ _ I1 I00, nI_1, Int32.add_zero]
    have hd := wrong_d y hy
    by_cases c0 : nI y = 0
    · rw [if_pos c0, if_pos (hd.mpr (Or.inl c0))]
      exact ih (i + 1) fX fM _ (by omega) (by omega) (by omega)
    · rw [if_neg c0]
      by_cases c7 : nI y = 7
      · rw [if_pos c7, if_pos (hd.mpr (Or.inr c7))]
        exact ih (i + 1) fX fM _ (by omega) (by omega) (by omega)
      · rw [if_neg c7, if_neg (fun q => (hd.mp q).elim c0 c7)]
        exact ih (i + 1) fX fM _ (by omega) (by omega) (by omega)
theorem near_l {IX I1 : gb_Mem} {k n : Nat} (hk : k ≤ 10) (hn : n < 4096) (eX : IX 25 2 = nI k) (eM : I1 0 53 = nI k) (h3 : ∀ i, i < k → IX 26 (4 * i) = I1 32 i ∧ gIn (I1 32 i) 0 4095) : ∀ m i fX fM b x y z, i + m = k → m < fX → m < fM → (b < i ∧ I1 32 b = nI z ∧ z < 4096 ∧ x = nI b ∧ y = nI (popc (z ^^^ n))) →
    ∃ v, L_Re_nearestFlag_9 25 40 (nI n) IX fX x y (nI i) = some v ∧ L_Mo_spoons_57 (nI n) I1 fM x (nI i) = some v := by
  intro m
  induction m with
  | zero =>
    intro i fX fM b x y z hi h1 h2 hr
    obtain ⟨fX, rfl⟩ : ∃ g, fX = g + 1 := ⟨fX - 1, by omega⟩
    obtain ⟨fM, rfl⟩ : ∃ g, fM = g + 1 := ⟨fM - 1, by omega⟩
    refine ⟨x, ?_, ?_⟩
    · simp only [L_Re_nearestFlag_9, eX]
      rw [if_pos (nI_le (by omega) (by omega))]
    · simp only [L_Mo_spoons_57, eM]
      rw [if_pos (nI_le (by omega) (by omega))]
  | succ m ih =>
    intro i fX fM b x y z hi h1 h2 hr
    obtain ⟨fX, rfl⟩ : ∃ g, fX = g + 1 := ⟨fX - 1, by omega⟩
    obtain ⟨fM, rfl⟩ : ∃ g, fM = g + 1 := ⟨fM - 1, by omega⟩
    obtain ⟨hb, ez, hz, rfl, rfl⟩ := hr
    obtain ⟨a1, a2⟩ := h3 i (by omega)
    obtain ⟨w, ew, hw, -⟩ := gIn_n a2
    have l1 : z ^^^ n < 4096 := Nat.xor_lt_two_pow (n := 12) hz hn
    have l2 : w ^^^ n < 4096 := Nat.xor_lt_two_pow (n := 12) (by omega) hn
    simp only [L_Re_nearestFlag_9, L_Mo_spoons_57, eX, eM, flt_d, J_Re_nearestFlag_46, J_Mo_spoons_99, J_Mo_spoons_102]
    rw [if_neg (nI_ge (by omega) (by omega)), if_neg (nI_ge (by omega) (by omega)), if_neg (nI_nm1 (by omega)), cell_n0 eX (by omega) (by omega) (by decide), fbd_s, show IX (25 + 1) (4 * i) = nI w from a1.trans ew, flod_n (by omega) (by decide), ew]
    rw [nI_xor (by omega) (by omega), ones_n l2, fbd_s, flod_n (by omega) (by decide), ez, nI_xor (by omega) (by omega), ones_n l1, fbd_s, bitc_n l2, nI_1]
    by_cases c : nI (popc (z ^^^ n)) ≤ nI (popc (w ^^^ n))
    · rw [if_pos c, if_pos c]
      exact ih (i + 1) fX fM b _ _ z (by omega) (by omega) (by omega) ⟨by omega, ez, hz, rfl, rfl⟩
    · rw [if_neg c, if_neg c]
      exact ih (i + 1) fX fM i _ _ w (by omega) (by omega) (by omega) ⟨by omega, ew, by omega, rfl, rfl⟩
theorem sim_spoons : S_spoons GInv := by
  intro x1 x2 IX IM h
  have h9 := ginv_told (v := 0) h
  generalize hI : mw IM 0 0 0 = I1 at h9
  obtain ⟨hT, hR, hBk, hLw, hVo, hDi, hRe, hNe, hFa, hCo, hFl, hGi, hSp, hRp, hJa⟩ := h9.2.2.1
  obtain ⟨e1, k, hk, e2, h3⟩ := hFl
  simp only [F_Mo_spoons, fstf_d, hI, isIn_within _ _ _ I1 IX, F_Gb_spoons]
  by_cases c1 : F_Gb_within x1 0 4095 IX = 0
  · exact ⟨-1, IX, I1, ⟨by rw [if_pos c1], rfl⟩, by rw [if_pos c1], h9⟩
  rw [if_neg c1, if_neg c1]
  by_cases c2 : F_Gb_within x2 0 2 IX = 0
  · exact ⟨-1, IX, I1, ⟨by rw [if_pos c2], rfl⟩, by rw [if_pos c2], h9⟩
  rw [if_neg c2, if_neg c2]
  obtain ⟨n, rfl, -, hn⟩ := wi_rng 0 4095 c1 rfl rfl (by decide) (by decide)
  obtain ⟨w, rfl, -, hw⟩ := wi_rng 0 2 c2 rfl rfl (by decide) (by decide)
  have hw2 : w = 0 ∨ w = 1 ∨ w = 2 := by omega
  rcases hw2 with rfl | rfl | rfl
  · rw [if_neg (show ¬ nI 0 = 2 by decide), if_pos (show nI 0 = 0 from rfl), if_neg (show ¬ 2 ≤ nI 0 by decide), if_pos (show nI 0 = 0 from rfl)]
    obtain ⟨v, q1, q2⟩ := said_l (IX := IX) (I1 := I1) (nI n) 4 0 5000 5000 0 (by omega) (by omega) (by omega)
    refine ⟨v, IX, I1, ⟨?_, rfl⟩, ?_, h9⟩
    · unfold F_Re_said
      rw [show L_Re_said_4 (nI n) IX 5000 0 0 = _ from q1]; rfl
    · unfold F_Mo_saidBy
      rw [show L_Mo_saidBy_4 (nI n) I1 5000 0 0 = _ from q2]; rfl
  · rw [if_neg (show ¬ nI 1 = 2 by decide), if_neg (show ¬ nI 1 = 0 by decide), if_neg (show ¬ 2 ≤ nI 1 by decide), if_neg (show ¬ nI 1 = 0 by decide)]
    obtain ⟨v, q1, q2⟩ := wrong_l (IX := IX) (I1 := I1) (nI n) 4 0 5000 5000 0 (by omega) (by omega) (by omega)
    refine ⟨v, IX, I1, ⟨?_, rfl⟩, ?_, h9⟩
    · unfold F_Re_wrongRows
      rw [show L_Re_wrongRows_4 (nI n) IX 5000 0 0 = _ from q1]; rfl
    · unfold F_Mo_wrongIn
      rw [show L_Mo_wrongIn_4 (nI n) I1 5000 0 0 = _ from q2]; rfl
  · rw [if_pos (show nI 2 = 2 from rfl), if_pos (show 2 ≤ nI 2 by decide)]
    have key : ∃ v, L_Re_nearestFlag_9 25 40 (nI n) IX 5000 (-1) 13 0 = some v ∧ L_Mo_spoons_57 (nI n) I1 5000 (-1) 0 = some v := by
      show ∃ v, L_Re_nearestFlag_9 25 40 (nI n) IX (4999 + 1) (-1) 13 0 = some v ∧ L_Mo_spoons_57 (nI n) I1 (4999 + 1) (-1) 0 = some v
      rw [L_Re_nearestFlag_9, L_Mo_spoons_57, e1.trans e2, e2]
      simp only [flt_d, J_Re_nearestFlag_46, J_Mo_spoons_99, J_Mo_spoons_102]
      cases k with
      | zero =>
        rw [if_pos (show nI 0 ≤ 0 by decide), if_pos (show nI 0 ≤ 0 by decide)]
        exact ⟨_, rfl, rfl⟩
      | succ k =>
        obtain ⟨a1, a2⟩ := h3 0 (by omega)
        obtain ⟨z, ez, hz, -⟩ := gIn_n a2
        have l1 : z ^^^ n < 4096 := Nat.xor_lt_two_pow (n := 12) (by omega) (by omega)
        have hp := popc_le (z ^^^ n)
        rw [if_neg (nI_nle (by omega) (by omega)), if_neg (nI_nle (by omega) (by omega)), if_pos True.intro, show F_Ro_cell 25 40 0 0 IX = some (nI z) from (cell_n0 (i := 0) (e1.trans e2) (by omega) (by omega) (by decide)).trans (congrArg some (a1.trans ez)), fbd_s, nI_xor (by omega) (by omega), bitc_n l1, if_neg (show ¬ 13 ≤ nI (popc (z ^^^ n)) from nI_ge (b := 13) (by omega) (by omega))]
        exact near_l hk (by omega) (e1.trans e2) e2 h3 k 1 4999 4999 0 0 (nI (popc (z ^^^ n))) z (by omega) (by omega) (by omega) ⟨by omega, ez, by omega, rfl, rfl⟩
    obtain ⟨v, q1, q2⟩ := key
    refine ⟨v, IX, I1, ⟨?_, rfl⟩, ?_, h9⟩
    · unfold F_Re_nearestFlag
      rw [q1]; rfl
    · rw [q2]; rfl
